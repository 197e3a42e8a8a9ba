/-! ===== the class's code: spread, without, correct ===== -/
theorem fillL {A : Nat} {v : Int32} (hA : A < 2147483648) : ∀ (F k : Nat) (a : Nat → Int32), k ≤ A → A - k < F → ∃ a', fJ7_fill_53178_L5 (nI A) A v F (nI k) a = some a' ∧ ∀ c, a' c = if k ≤ c ∧ c < A then v else a c := by
  intro F
  induction F with
  | zero => intro k a _ h; omega
  | succ F ih =>
    intro k a hk hF
    rw [fJ7_fill_53178_L5.eq_2]
    by_cases h1 : A ≤ k
    · rw [if_pos (nI_le h1 (by omega))]
      exact ⟨a, rfl, fun c => by rw [if_neg (by omega)]⟩
    · rw [if_neg (nI_ge (by omega) (by omega)), og_nI (by omega) hA, nmE, nmE, nI_clamp (by omega), nI_1]
      obtain ⟨a', g1, g2⟩ := ih (k + 1) (upd a k v) (by omega) (by omega)
      refine ⟨a', g1, fun c => ?_⟩
      rw [g2 c]
      by_cases q : c = k
      · subst q
        rw [if_neg (by omega), if_pos (by omega), pk_us]
      · rw [pk_un q]
        by_cases q2 : k + 1 ≤ c ∧ c < A
        · rw [if_pos q2, if_pos (by omega)]
        · rw [if_neg q2, if_neg (by omega)]
theorem fill_eq {A : Nat} {v : Int32} (a : Nat → Int32) (hA : A < 999999) : ∃ a', fJ7_fill_53178 a A v = some a' ∧ ∀ c, a' c = if c < A then v else a c := by
  unfold fJ7_fill_53178
  obtain ⟨a', g1, g2⟩ := fillL (A := A) (v := v) (by omega) FU 0 a (by omega) (by rw [FU_eq]; omega)
  refine ⟨a', ?_, fun c => ?_⟩
  · rw [nmE]; exact g1
  · rw [g2 c]
    by_cases q : c < A
    · rw [if_pos ⟨by omega, q⟩, if_pos q]
    · rw [if_neg (fun w => q w.2), if_neg q]
def pD (sk : Nat) : Nat → Nat
  | 0 => 0
  | k + 1 => if k = sk then pD sk k else pD sk k + 1
def pC (X : Nat → Nat) (sk : Nat) : Nat → Nat → Nat
  | 0 => fun c => if c = 0 then 1 else 0
  | k + 1 => if k = sk then pC X sk k else fun c => (if c = 0 then 0 else pC X sk k (c - 1)) ^^^ gm (pC X sk k c) (X k)
theorem pD_s (sk k : Nat) : pD sk (k + 1) = if k = sk then pD sk k else pD sk k + 1 := rfl
theorem pC_s (X : Nat → Nat) (sk k : Nat) : pC X sk (k + 1) = if k = sk then pC X sk k else fun c => (if c = 0 then 0 else pC X sk k (c - 1)) ^^^ gm (pC X sk k c) (X k) := rfl
theorem pD_le (sk : Nat) : ∀ k, pD sk k ≤ k ∧ (sk < k → pD sk k + 1 = k) ∧ (k ≤ sk → pD sk k = k)
  | 0 => ⟨Nat.le_refl _, fun h => by omega, fun _ => rfl⟩
  | k + 1 => by
    obtain ⟨h1, h2, h3⟩ := pD_le sk k
    rw [pD_s]
    by_cases q : k = sk
    · rw [if_pos q]; exact ⟨by omega, fun _ => by have := h3 (by omega); omega, fun _ => by omega⟩
    · rw [if_neg q]; exact ⟨by omega, fun _ => by have := h2 (by omega); omega, fun _ => by have := h3 (by omega); omega⟩
theorem pC_lt {X : Nat → Nat} {sk : Nat} : ∀ k c, pC X sk k c < 256
  | 0, c => by
    show (if c = 0 then 1 else 0) < 256
    by_cases q : c = 0
    · rw [if_pos q]; omega
    · rw [if_neg q]; omega
  | k + 1, c => by
    rw [pC_s]
    by_cases q : k = sk
    · rw [if_pos q]; exact pC_lt k c
    · rw [if_neg q]
      refine x_lt ?_ (gm_lt _ _)
      by_cases q2 : c = 0
      · rw [if_pos q2]; omega
      · rw [if_neg q2]; exact pC_lt k _
theorem pC_0 {X : Nat → Nat} {sk : Nat} : ∀ k c, pD sk k < c → pC X sk k c = 0
  | 0, c, h => by
    show (if c = 0 then 1 else 0) = 0
    rw [if_neg (by omega)]
  | k + 1, c, h => by
    rw [pD_s] at h
    rw [pC_s]
    by_cases q : k = sk
    · rw [if_pos q] at h ⊢; exact pC_0 k c h
    · rw [if_neg q] at h ⊢
      show (if c = 0 then 0 else pC X sk k (c - 1)) ^^^ gm (pC X sk k c) (X k) = 0
      rw [if_neg (by omega), pC_0 k (c - 1) (by omega), pC_0 k c (by omega), gm_0l, Nat.xor_self]
def pv (p : Nat → Nat) (d : Nat) (S : Nat → Nat) (j : Nat) : Nat := xs (fun c => gm (p c) (S (j + c))) (d + 1)
theorem xs_front (f : Nat → Nat) : ∀ k, xs f (k + 1) = f 0 ^^^ xs (fun t => f (t + 1)) k
  | 0 => by show 0 ^^^ f 0 = f 0 ^^^ 0; rw [Nat.xor_comm]
  | k + 1 => by
    show xs f (k + 1) ^^^ f (k + 1) = f 0 ^^^ (xs (fun t => f (t + 1)) k ^^^ f (k + 1))
    rw [xs_front f k, Nat.xor_assoc]
theorem pv_tk {X S : Nat → Nat} {sk : Nat} (hX : ∀ t, X t < 256) (hS : ∀ j, S j < 256) : ∀ k j, pv (pC X sk k) (pD sk k) S j = tk' X sk S k j
  | 0, j => by
    show 0 ^^^ gm 1 (S (j + 0)) = S j
    rw [Nat.zero_xor, gm_1 (hS _)]; rfl
  | k + 1, j => by
    show _ = (if k = sk then tk' X sk S k else tx (X k) (tk' X sk S k)) j
    rw [pC_s, pD_s]
    by_cases q : k = sk
    · rw [if_pos q, if_pos q, if_pos q]; exact pv_tk hX hS k j
    · rw [if_neg q, if_neg q, if_neg q]
      have ih := pv_tk (sk := sk) hX hS k
      rw [tx_congr (ih j).symm (ih (j + 1)).symm]
      have hz : pC X sk k (pD sk k + 1) = 0 := pC_0 k _ (by omega)
      have hp := pC_lt (X := X) (sk := sk) k
      generalize pC X sk k = p at *
      generalize pD sk k = d at *
      unfold pv tx
      have e1 : xs (fun c => gm ((if c = 0 then 0 else p (c - 1)) ^^^ gm (p c) (X k)) (S (j + c))) (d + 1 + 1) = xs (fun c => gm (if c = 0 then 0 else p (c - 1)) (S (j + c)) ^^^ gm (gm (p c) (S (j + c))) (X k)) (d + 1 + 1) := xs_congr _ (fun c _ => by
        have hc : (if c = 0 then 0 else p (c - 1)) < 256 := by
          by_cases q2 : c = 0
          · rw [if_pos q2]; omega
          · rw [if_neg q2]; exact hp _
        rw [gm_xor hc (gm_lt _ _) (hS _), gm_mid (hp c) (hS _) (hX k)])
      rw [e1, xs_xor, xs_front]
      have e2 : xs (fun t => gm (if t + 1 = 0 then 0 else p (t + 1 - 1)) (S (j + (t + 1)))) (d + 1) = xs (fun c => gm (p c) (S (j + 1 + c))) (d + 1) := xs_congr _ (fun c _ => by
        rw [if_neg (by omega), Nat.add_sub_cancel, show j + (c + 1) = j + 1 + c from by omega])
      have e3 : xs (fun c => gm (gm (p c) (S (j + c))) (X k)) (d + 1 + 1) = gm (X k) (xs (fun c => gm (p c) (S (j + c))) (d + 1)) := by
        show xs _ (d + 1) ^^^ gm (gm (p (d + 1)) _) (X k) = _
        rw [hz, gm_0l, gm_0l, Nat.xor_zero, gm_comm (X k), xs_gm (hX k) _ (fun t _ => gm_lt _ _)]
      rw [e2, e3]
      show gm 0 _ ^^^ _ ^^^ _ = _
      rw [gm_0l, Nat.zero_xor]
theorem tk_xp {X : Nat → Nat} {sk y : Nat} (hX : ∀ t, X t < 256) (hy : y < 256) : ∀ k j, tk' X sk (xp y) k j = gm (pk' X sk y k) (xp y j)
  | 0, j => by show xp y j = gm 1 _; rw [gm_1 (xp_lt _ _)]
  | k + 1, j => by
    show (if k = sk then tk' X sk (xp y) k else tx (X k) (tk' X sk (xp y) k)) j = gm (if k = sk then pk' X sk y k else gm (pk' X sk y k) (y ^^^ X k)) (xp y j)
    by_cases q : k = sk
    · rw [if_pos q, if_pos q]; exact tk_xp hX hy k j
    · rw [if_neg q, if_neg q]
      unfold tx
      rw [tk_xp hX hy k j, tk_xp hX hy k (j + 1)]
      have hp := pk_lt' X sk y k
      have hx := xp_lt y j
      show gm _ (gm (xp y j) y) ^^^ _ = _
      rw [gm_comm (X k), gm_mid hp hx (x_lt hy (hX k)), gm_xor' hy (hX k) (gm_lt _ _), gm_as _ _ _ hp hx hy]
theorem spIn {j : (Nat → Int32) → Option (Int32 × (Nat → Int32))} {pwr lg : Nat → Int32} (hT : TabF pwr lg) {x : Nat} (hx : x < 256) : ∀ (F k : Nat) (q : Nat → Nat) (loc : Nat → Int32), k ≤ 4 → k < F → (∀ c, c < 5 → loc c = nI (q c)) → (∀ c, q c < 256) →
    ∃ loc', fX0_spread_L72 j lg pwr (nI x) F (nI k) loc = j loc' ∧ ∀ c, c < 5 → loc' c = nI (if 1 ≤ c ∧ c ≤ k then q (c - 1) ^^^ gm (q c) x else q c) := by
  intro F
  induction F with
  | zero => intro k q loc _ h; omega
  | succ F ih =>
    intro k q loc hk hF hl hq
    rw [fX0_spread_L72.eq_2]
    cases k with
    | zero =>
      rw [if_pos (show nI 0 ≤ (0 : Int32) from by decide)]
      exact ⟨loc, rfl, fun c hc => by rw [if_neg (by omega)]; exact hl c hc⟩
    | succ m =>
      rw [if_neg (nI_nle (by omega) (by omega)), show nI (m + 1) - (1 : Int32) = nI m from nI_pred m, og_nI (by omega) (by omega), og_nI (by omega) (by omega), nI_clamp (by omega), hl (m + 1) (by omega), timesC hT (hq _) hx, ob1E, og_nI (by omega) (by omega), nmE, nmE, nI_clamp (by omega), hl m (by omega), nx_xor, dn_s]
      obtain ⟨loc', g1, g2⟩ := ih m (fun c => if c = m + 1 then q m ^^^ gm (q (m + 1)) x else q c) (upd loc (m + 1) (nI (q m ^^^ gm (q (m + 1)) x))) (by omega) (by omega) (fun c hc => by
        by_cases w : c = m + 1
        · rw [w, pk_us, if_pos rfl]
        · rw [pk_un w, if_neg w]; exact hl c hc) (fun c => by
        by_cases w : c = m + 1
        · rw [if_pos w]; exact x_lt (hq _) (gm_lt _ _)
        · rw [if_neg w]; exact hq c)
      refine ⟨loc', g1, fun c hc => ?_⟩
      rw [g2 c hc]
      congr 1
      by_cases w1 : 1 ≤ c ∧ c ≤ m
      · rw [if_pos w1, if_neg (show ¬ c - 1 = m + 1 from by omega), if_neg (show ¬ c = m + 1 from by omega), if_pos (show 1 ≤ c ∧ c ≤ m + 1 from by omega)]
      · rw [if_neg w1]
        by_cases w2 : c = m + 1
        · rw [if_pos w2, if_pos (show 1 ≤ c ∧ c ≤ m + 1 from by omega), w2, Nat.add_sub_cancel]
        · rw [if_neg w2, if_neg (show ¬ (1 ≤ c ∧ c ≤ m + 1) from by omega)]
theorem spOut {pwr lg : Nat → Int32} (hT : TabF pwr lg) {n k sk : Nat} {x1 : Int32} {P : Nat → Nat} {spots : Nat → Int32} (hn : n ≤ 32) (hk : k ≤ 4) (hP : ∀ t, t < k → spots t = nI (P t) ∧ P t < n) (hsk : ∀ s, s < 4 → (nI s = x1 ↔ s = sk)) : ∀ (F s : Nat) (loc : Nat → Int32), s ≤ k → k - s < F → (∀ c, c < 5 → loc c = nI (pC (fun t => gp (n - 1 - P t)) sk s c)) →
    ∃ loc', fX0_spread_L19 (nI k) x1 pwr (nI n) spots lg F (nI s) (nI (pD sk s)) loc = some (nI (pD sk k), loc') ∧ ∀ c, c < 5 → loc' c = nI (pC (fun t => gp (n - 1 - P t)) sk k c) := by
  intro F
  induction F with
  | zero => intro s loc _ h; omega
  | succ F ih =>
    intro s loc hs hF hl
    rw [fX0_spread_L19.eq_2]
    by_cases h1 : k ≤ s
    · rw [if_pos (nI_le h1 (by omega)), show s = k from by omega]
      exact ⟨loc, rfl, by rw [show k = s from by omega]; exact hl⟩
    · rw [if_neg (nI_ge (by omega) (by omega)), if_neg (show ¬ (4 : Int32) ≤ nI s from nI_ge (b := 4) (by omega) (by omega))]
      simp only [jkE, nmE]
      have hi := ih (s + 1)
      rw [pD_s, pC_s] at hi
      rw [nI_1, nI_1]
      by_cases q : s = sk
      · rw [if_pos ((hsk s (by omega)).mpr q)]
        rw [if_pos q, if_pos q] at hi
        exact hi loc (by omega) (by omega) hl
      · rw [if_neg (fun w => q ((hsk s (by omega)).mp w))]
        rw [if_neg q, if_neg q] at hi
        obtain ⟨hP1, hP2⟩ := hP s (by omega)
        have hd := (pD_le sk s).1
        rw [og_nI (by omega) (by omega), nI_clamp (by omega), hP1, show nI n - (1 : Int32) = nI (n - 1) from pk_sub (b := 1) (by omega), pk_sub (by omega), powerC hT (by omega), ob1E]
        obtain ⟨loc2, g1, g2⟩ := spIn (j := fun v_locator_20 => og (ixb 0 5) (ob1 (fX2_times lg pwr (v_locator_20 (Int32.toNatClampNeg 0)) (nI (gp (n - 1 - P s)))) fun r_23 => og (ixb 0 5) (fX0_spread_L19 (nI k) x1 pwr (nI n) spots lg F (nI (s + 1)) (nI (pD sk s + 1)) (upd v_locator_20 (Int32.toNatClampNeg 0) r_23)))) hT (gp_lt (n - 1 - P s)) FU (pD sk s + 1) _ loc (by omega) (by rw [FU_eq]; omega) hl (fun c => pC_lt s c)
        rw [g1, show (0 : Int32).toNatClampNeg = 0 from rfl, og_t (show ixb 0 5 = true from rfl), g2 0 (by omega), if_neg (by omega), timesC hT (pC_lt _ _) (gp_lt _), ob1E, og_t (show ixb 0 5 = true from rfl)]
        refine hi _ (by omega) (by omega) (fun c hc => ?_)
        by_cases w : c = 0
        · subst w
          rw [pk_us, if_pos rfl, Nat.zero_xor]
        · rw [pk_un w, g2 c hc, if_neg w]
          congr 1
          by_cases w2 : c ≤ pD sk s + 1
          · rw [if_pos (by omega)]
          · rw [if_neg (by omega), pC_0 s c (by omega), pC_0 s (c - 1) (by omega), gm_0l, Nat.xor_self]
theorem spread_eq {pwr lg : Nat → Int32} (hT : TabF pwr lg) {n k sk : Nat} {x1 : Int32} {P : Nat → Nat} {spots : Nat → Int32} (loc : Nat → Int32) (hn : n ≤ 32) (hk : k ≤ 4) (hP : ∀ t, t < k → spots t = nI (P t) ∧ P t < n) (hsk : ∀ s, s < 4 → (nI s = x1 ↔ s = sk)) :
    ∃ loc', fX0_spread (nI n) (nI k) loc spots lg pwr x1 = some (nI (pD sk k), loc') ∧ ∀ c, c < 5 → loc' c = nI (pC (fun t => gp (n - 1 - P t)) sk k c) := by
  unfold fX0_spread
  obtain ⟨l1, g1, g2⟩ := fill_eq (A := 5) (v := 0) loc (by omega)
  rw [g1, ob1E, og_t (show ixb 0 5 = true from rfl), nmE]
  refine spOut hT hn hk hP hsk FU 0 _ (by omega) (by rw [FU_eq]; omega) (fun c hc => ?_)
  show _ = nI (if c = 0 then 1 else 0)
  by_cases w : c = 0
  · subst w; rfl
  · rw [show (0 : Int32).toNatClampNeg = 0 from rfl, pk_un w, g2 c, if_pos hc, if_neg w]; rfl
theorem woL {pwr lg : Nat → Int32} (hT : TabF pwr lg) {d j : Nat} {q S : Nat → Nat} {loc sums : Nat → Int32} (hd : j + d < 4) (hl : ∀ c, c < 5 → loc c = nI (q c)) (hq : ∀ c, q c < 256) (hs : ∀ t, t < 4 → sums t = nI (S t)) (hS : ∀ t, S t < 256) : ∀ (F c : Nat), c ≤ d + 1 → d + 1 - c < F →
    fX0_without_L5 (nI d) (nI j) lg pwr loc sums F (nI c) (nI (xs (fun c => gm (q c) (S (j + c))) c)) = some (nI (pv q d S j)) := by
  intro F
  induction F with
  | zero => intro c _ h; omega
  | succ F ih =>
    intro c hc hF
    rw [fX0_without_L5.eq_2]
    by_cases h1 : d < c
    · rw [if_pos (nI_lt h1 (by omega)), show c = d + 1 from by omega]; rfl
    · rw [if_neg (nI_nlt (by omega) (by omega)), nI_add, if_neg (show ¬ (4 : Int32) ≤ nI (j + c) from nI_ge (b := 4) (by omega) (by omega)), og_nI (by omega) (by omega), og_nI (by omega) (by omega), nI_clamp (by omega), nI_clamp (by omega), hl c (by omega), hs (j + c) (by omega), timesC hT (hq _) (hS _), ob1E, nmE, nmE, nx_xor, nI_1]
      exact ih (c + 1) (by omega) (by omega)
theorem without_eq {pwr lg : Nat → Int32} (hT : TabF pwr lg) {d j : Nat} {q S : Nat → Nat} {loc sums : Nat → Int32} (hd : j + d < 4) (hl : ∀ c, c < 5 → loc c = nI (q c)) (hq : ∀ c, q c < 256) (hs : ∀ t, t < 4 → sums t = nI (S t)) (hS : ∀ t, S t < 256) : fX0_without loc sums lg pwr (nI d) (nI j) = some (nI (pv q d S j)) := by
  unfold fX0_without
  exact woL hT hd hl hq hs hS FU 0 (by omega) (by rw [FU_eq]; omega)
theorem hornL {j : Int32 → Option ((Nat → Int32) × (Nat → Int32))} {pwr lg : Nat → Int32} (hT : TabF pwr lg) {y : Nat} {q : Nat → Nat} {loc : Nat → Int32} (hy : y < 256) (hl : ∀ c, c < 5 → loc c = nI (q c)) (hq : ∀ c, q c < 256) : ∀ (F K s : Nat), K ≤ 5 → K < F → s < 256 →
    ∃ s', s' < 256 ∧ fX0_correct_L65 j lg pwr (nI y) loc F (dn K) (nI s) = j (nI s') ∧ xs (fun c => gm (q c) (xp y c)) K ^^^ gm s (xp y K) = s' := by
  intro F
  induction F with
  | zero => intro K s _ h; omega
  | succ F ih =>
    intro K s hK hF hs
    rw [fX0_correct_L65.eq_2]
    cases K with
    | zero =>
      rw [if_pos dn_0]
      refine ⟨s, hs, rfl, ?_⟩
      show 0 ^^^ gm s 1 = s
      rw [Nat.zero_xor, gm_comm, gm_1 hs]
    | succ c =>
      rw [show dn (c + 1) = nI c from rfl, if_neg (nI_pos (by omega)), timesC hT hs hy, ob1E, og_nI (by omega) (by omega), nmE, nmE, nI_clamp (by omega), hl c (by omega), nx_xor, dn_s]
      obtain ⟨s', g1, g2, g3⟩ := ih c (gm s y ^^^ q c) (by omega) (by omega) (x_lt (gm_lt _ _) (hq c))
      refine ⟨s', g1, g2, ?_⟩
      rw [← g3]
      show (xs _ c ^^^ gm (q c) (xp y c)) ^^^ gm s (gm (xp y c) y) = _
      rw [gm_xor (gm_lt _ _) (hq c) (xp_lt _ _), gm_mid hs (xp_lt _ _) hy, gm_as s _ y hs (xp_lt _ _) hy, Nat.xor_assoc, Nat.xor_comm (gm (q c) _)]
def upW (W P E : Nat → Nat) : Nat → Nat → Nat
  | 0 => W
  | s + 1 => fun i => if i = P s then upW W P E s i ^^^ E s else upW W P E s i
theorem upW_s (W P E : Nat → Nat) (s i : Nat) : upW W P E (s + 1) i = if i = P s then upW W P E s i ^^^ E s else upW W P E s i := rfl
theorem upW_lt {W P E : Nat → Nat} (hW : ∀ i, W i < 256) (hE : ∀ t, E t < 256) : ∀ s i, upW W P E s i < 256
  | 0, i => hW i
  | s + 1, i => by
    rw [upW_s]
    by_cases q : i = P s
    · rw [if_pos q]; exact x_lt (upW_lt hW hE s i) (hE s)
    · rw [if_neg q]; exact upW_lt hW hE s i
/-- what the class adds at place s -/
def eC (X S : Nat → Nat) (k s : Nat) : Nat := gm (tk' X s S k 0) (gi (pk' X s (X s) k))
theorem byte_xor {c e w : Int32} (h : c &&& 255 = w) : (vp_nar .byte (Int8.toInt32 (Int32.toInt8 (c ^^^ Int8.toInt32 (Int32.toInt8 e))))) &&& 255 = w ^^^ (e &&& 255) := by
  rw [vnb, low8, low8, and_xor255, low8, h]
theorem corL {pwr lg : Nat → Int32} (hT : TabF pwr lg) {n k fr A : Nat} {P S : Nat → Nat} {spots sums : Nat → Int32} {W : Nat → Nat} (hn : n ≤ 32) (hk : k ≤ 4) (hA : A < 1000000) (hf : fr + n ≤ A) (hP : ∀ t, t < k → spots t = nI (P t) ∧ P t < n) (hd : ∀ a b, a < k → b < k → a ≠ b → P a ≠ P b) (hs : ∀ t, t < 4 → sums t = nI (S t)) (hS : ∀ t, S t < 256) (hW : ∀ i, W i < 256) : ∀ (F s : Nat) (loc c : Nat → Int32), s ≤ k → k - s < F → (∀ i, i < n → c (fr + i) &&& 255 = nI (upW W P (eC (fun t => gp (n - 1 - P t)) S k) s i)) →
    ∃ loc' c', fX0_correct_L12 (nI k) (nI n) spots lg pwr (nI fr) A sums F (nI s) loc c = some (loc', c') ∧ (∀ i, i < n → c' (fr + i) &&& 255 = nI (upW W P (eC (fun t => gp (n - 1 - P t)) S k) k i)) ∧ (∀ p, isB (c p) → isB (c' p)) ∧ ∀ p, (p < fr ∨ fr + n ≤ p) → c' p = c p := by
  intro F
  induction F with
  | zero => intro s loc c _ h; omega
  | succ F ih =>
    intro s loc c hs2 hF hc
    rw [fX0_correct_L12.eq_2]
    by_cases h1 : k ≤ s
    · rw [if_pos (nI_le h1 (by omega))]
      exact ⟨loc, c, rfl, by rw [show k = s from by omega] at hc ⊢; exact hc, fun p h => h, fun p _ => rfl⟩
    · rw [if_neg (nI_ge (by omega) (by omega)), if_neg (show ¬ (4 : Int32) ≤ nI s from nI_ge (b := 4) (by omega) (by omega))]
      have hX : ∀ t, (fun t => gp (n - 1 - P t)) t < 256 := fun t => gp_lt _
      obtain ⟨l1, g1, g2⟩ := spread_eq hT loc hn hk hP (sk := s) (x1 := nI s) (fun t ht => nI_eq (by omega) (by omega))
      obtain ⟨hP1, hP2⟩ := hP s (by omega)
      rw [g1, ob2E, og_nI (by omega) (by omega), nI_clamp (by omega), hP1, show nI n - (1 : Int32) = nI (n - 1) from pk_sub (b := 1) (by omega), pk_sub (by omega), powerC hT (by omega), ob1E]
      simp only [jkE, nmE]
      have hdg := (pD_le s k).2.1 (by omega)
      obtain ⟨s', t1, t2, t3⟩ := hornL (j := fun x6_16 => og (ixb (nI s) 4) (og (ixb (nI fr + nI (P s)) A) (ob1 (fX0_without l1 sums lg pwr (nI (pD s k)) 0) fun r_20 => ob1 (fX2_over lg pwr r_20 x6_16) fun r_22 => og (ixb (nI fr + nI (P s)) A) (fX0_correct_L12 (nI k) (nI n) spots lg pwr (nI fr) A sums F (nI s + 1) l1 (upd c (Int32.toNatClampNeg (nI fr + nI (P s))) (vp_nar .byte (Int8.toInt32 (Int32.toInt8 ((c (Int32.toNatClampNeg (nI fr + nI (P s)))) ^^^ (Int8.toInt32 (Int32.toInt8 r_22)))))))))) ) hT (gp_lt (n - 1 - P s)) g2 (fun c => pC_lt k c) FU (pD s k + 1) 0 (by omega) (by rw [FU_eq]; omega) (by omega)
      have t2' : fX0_correct_L65 (fun x6_16 => og (ixb (nI s) 4) (og (ixb (nI fr + nI (P s)) A) (ob1 (fX0_without l1 sums lg pwr (nI (pD s k)) 0) fun r_20 => ob1 (fX2_over lg pwr r_20 x6_16) fun r_22 => og (ixb (nI fr + nI (P s)) A) (fX0_correct_L12 (nI k) (nI n) spots lg pwr (nI fr) A sums F (nI s + 1) l1 (upd c (Int32.toNatClampNeg (nI fr + nI (P s))) (vp_nar .byte (Int8.toInt32 (Int32.toInt8 ((c (Int32.toNatClampNeg (nI fr + nI (P s)))) ^^^ (Int8.toInt32 (Int32.toInt8 r_22)))))))))) ) lg pwr (nI (gp (n - 1 - P s))) l1 FU (nI (pD s k)) 0 = _ := t2
      have hsh : s' = pk' (fun t => gp (n - 1 - P t)) s (gp (n - 1 - P s)) k := by
        rw [← t3, gm_0l, Nat.xor_zero]
        have a1 := pv_tk (X := fun t => gp (n - 1 - P t)) (S := xp (gp (n - 1 - P s))) (sk := s) hX (xp_lt _) k 0
        rw [tk_xp hX (gp_lt _), show xp (gp (n - 1 - P s)) 0 = 1 from rfl, gm_comm, gm_1 (pk_lt' _ _ _ _)] at a1
        rw [← a1]
        exact xs_congr _ (fun t _ => by rw [Nat.zero_add])
      have hpos : 0 < s' := by
        rw [hsh]
        refine pk_ne k (fun t ht hts => fun w => ?_)
        have hPt := (hP t ht).2
        have w2 : gl (gp (n - 1 - P s)) = gl (gp (n - 1 - P t)) := congrArg gl w
        rw [gl_gp0 _ (by omega), gl_gp0 _ (by omega)] at w2
        exact hd s t (by omega) ht (fun q => hts q.symm) (by omega)
      have hwo : fX0_without l1 sums lg pwr (nI (pD s k)) 0 = _ := without_eq (j := 0) hT (by omega) g2 (fun c => pC_lt k c) hs hS
      rw [pv_tk hX hS] at hwo
      rw [t2', og_nI (by omega) (by omega), nI_add, og_nI (by omega) (by omega), hwo, ob1E, overC hT (tk_lt' hS _ _) t1 hpos, ob1E, og_nI (by omega) (by omega), nI_clamp (by omega), nI_1]
      have he : gm (tk' (fun t => gp (n - 1 - P t)) s S k 0) (gi s') = eC (fun t => gp (n - 1 - P t)) S k s := by unfold eC; rw [hsh]
      rw [he]
      have hEl : ∀ t, eC (fun t => gp (n - 1 - P t)) S k t < 256 := fun t => gm_lt _ _
      have hcs := hc (P s) hP2
      obtain ⟨l2, c2, r1, r2, r3, r4⟩ := ih (s + 1) l1 (upd c (fr + P s) (vp_nar .byte (Int8.toInt32 (Int32.toInt8 (c (fr + P s) ^^^ Int8.toInt32 (Int32.toInt8 (nI (eC (fun t => gp (n - 1 - P t)) S k s)))))))) (by omega) (by omega) (fun i hi => by
        rw [upW_s]
        by_cases w : i = P s
        · rw [if_pos w, w, pk_us, byte_xor hcs, and255 (hEl s), nx_xor]
        · rw [if_neg w, pk_un (by omega)]; exact hc i hi)
      refine ⟨l2, c2, r1, r2, fun p hp => r3 p ?_, fun p hp => ?_⟩
      · by_cases w : p = fr + P s
        · rw [w, pk_us, vnb]; exact isB_i8 _
        · rw [pk_un w]; exact hp
      · rw [r4 p hp, pk_un (by omega)]
theorem correct_eq {pwr lg : Nat → Int32} (hT : TabF pwr lg) {n k fr A : Nat} {P S : Nat → Nat} {spots sums : Nat → Int32} {W : Nat → Nat} (loc c : Nat → Int32) (hn : n ≤ 32) (hk : k ≤ 4) (hA : A < 1000000) (hf : fr + n ≤ A) (hP : ∀ t, t < k → spots t = nI (P t) ∧ P t < n) (hd : ∀ a b, a < k → b < k → a ≠ b → P a ≠ P b) (hs : ∀ t, t < 4 → sums t = nI (S t)) (hS : ∀ t, S t < 256) (hW : ∀ i, W i < 256) (hc : ∀ i, i < n → c (fr + i) &&& 255 = nI (W i)) :
    ∃ loc' c', fX0_correct (nI n) (nI k) loc spots sums lg pwr c A (nI fr) = some (loc', c') ∧ (∀ i, i < n → c' (fr + i) &&& 255 = nI (upW W P (eC (fun t => gp (n - 1 - P t)) S k) k i)) ∧ (∀ p, isB (c p) → isB (c' p)) ∧ ∀ p, (p < fr ∨ fr + n ≤ p) → c' p = c p := by
  unfold fX0_correct fX0_fits
  rw [if_neg (nI_pos (by omega)), show Int32.ofNat A - nI n = nI (A - n) from pk_sub (by omega), if_neg (nI_nlt (by omega) (by omega)), nt1E, if_neg ne10]
  exact corL hT hn hk hA hf hP hd hs hS hW FU 0 loc c (by omega) (by rw [FU_eq]; omega) hc
