/-! ===== field tables, bytes, sums of a word ===== -/
theorem b_i8 (x : Int32) {i : Nat} (h : i < 8) : bt x.toInt8.toInt32 i = bt x i := by
  unfold bt
  rw [Int8.toBitVec_toInt32, BitVec.getLsbD_signExtend, Int32.toBitVec_toInt8, BitVec.getLsbD_signExtend]
  simp [h, show i < 32 from by omega]
theorem low8 (x : Int32) : x.toInt8.toInt32 &&& 255 = x &&& 255 := b_ext (fun i _ => by
  rw [b_and, b_and, b_255]
  by_cases h : i < 8
  · rw [b_i8 x h]
  · rw [decide_eq_false h]; simp)
theorem isB_i8 (x : Int32) : isB x.toInt8.toInt32 := by
  have a1 := Int8.le_toInt x.toInt8
  have a2 := Int8.toInt_lt x.toInt8
  unfold isB
  rw [Int8.toInt_toInt32]
  omega
theorem and_xor255 (x y : Int32) : (x ^^^ y) &&& 255 = (x &&& 255) ^^^ (y &&& 255) := b_ext (fun i _ => by
  rw [b_and, b_xor, b_xor, b_and, b_and, b_255]
  cases bt x i <;> cases bt y i <;> cases decide (i < 8) <;> rfl)
theorem and255 {a : Nat} (ha : a < 256) : nI a &&& (255 : Int32) = nI a := by
  rw [pk_andN (by omega) (m := 255) 8 (by decide), Nat.mod_eq_of_lt ha]
theorem TF_lg {pwr lg : Nat → Int32} (h : TabF pwr lg) {a : Nat} (ha : a < 256) (h0 : 0 < a) : lg a = nI (gl a) := by
  have := gp_gl a ha h0
  have e := h.2 (gl a) this.2
  rw [this.1] at e; exact e
theorem timesC {pwr lg : Nat → Int32} (h : TabF pwr lg) {a b : Nat} (ha : a < 256) (hb : b < 256) : fX2_times lg pwr (nI a) (nI b) = some (nI (gm a b)) := by
  unfold fX2_times
  rcases Nat.eq_zero_or_pos a with h0 | h0
  · subst h0; rw [if_pos (show nI 0 = (0 : Int32) from rfl), gm_0l]; rfl
  rcases Nat.eq_zero_or_pos b with h1 | h1
  · subst h1; rw [if_neg (nI_ne0 h0 (by omega)), if_pos (show nI 0 = (0 : Int32) from rfl), gm_0]; rfl
  · have l1 := gp_gl a ha h0
    have l2 := gp_gl b hb h1
    rw [if_neg (nI_ne0 h0 (by omega)), if_neg (nI_ne0 h1 (by omega)), and255 ha, and255 hb, og_nI ha (by omega), og_nI hb (by omega), nI_clamp (by omega), nI_clamp (by omega), TF_lg h ha h0, TF_lg h hb h1, nI_add, og_nI (by omega) (by omega), nI_clamp (by omega), h.1 _ (by omega)]
    unfold gm
    rw [if_neg (by omega)]
theorem overC {pwr lg : Nat → Int32} (h : TabF pwr lg) {a b : Nat} (ha : a < 256) (hb : b < 256) (h1 : 0 < b) : fX2_over lg pwr (nI a) (nI b) = some (nI (gm a (gi b))) := by
  unfold fX2_over
  rcases Nat.eq_zero_or_pos a with h0 | h0
  · subst h0; rw [if_pos (show nI 0 = (0 : Int32) from rfl), gm_0l]; rfl
  · have l1 := gp_gl a ha h0
    have l2 := gp_gl b hb h1
    rw [if_neg (nI_ne0 h0 (by omega)), if_neg (nI_ne0 h1 (by omega)), and255 ha, and255 hb, og_nI ha (by omega), og_nI hb (by omega), nI_clamp (by omega), nI_clamp (by omega), TF_lg h ha h0, TF_lg h hb h1, show nI (gl a) + (255 : Int32) = nI (gl a + 255) from nI_add _ 255, pk_sub (by omega), og_nI (by omega) (by omega), nI_clamp (by omega), h.1 _ (by omega)]
    congr 2
    unfold gi
    have e : gm (gp (gl a)) (gp (255 - gl b)) = gp (gl a + (255 - gl b)) := gm_gp _ _
    rw [l1.1] at e
    rw [e]; congr 1; omega
theorem logC {pwr lg : Nat → Int32} (h : TabF pwr lg) {a : Nat} (ha : a < 256) (h0 : 0 < a) : fX2_log lg (nI a) = some (nI (gl a)) := by
  unfold fX2_log
  rw [and255 ha, og_nI ha (by omega), nI_clamp (by omega), TF_lg h ha h0]
theorem powerC {pwr lg : Nat → Int32} (h : TabF pwr lg) {e : Nat} (he : e < 510) : fX2_power pwr (nI e) = some (nI (gp e)) := by
  unfold fX2_power
  rw [if_neg (nI_pos (by omega)), if_neg (show ¬ (510 : Int32) ≤ nI e from nI_ge (b := 510) he (by omega)), og_nI he (by omega), nI_clamp (by omega), h.1 e he]
theorem timesR {pwr lg : Nat → Int32} (h : TabF pwr lg) {a b : Nat} (ha : a < 256) (hb : b < 256) : fX10_times lg pwr (nI a) (nI b) = some (nI (gm a b)) := by
  unfold fX10_times
  rcases Nat.eq_zero_or_pos a with h0 | h0
  · subst h0; rw [if_pos (show nI 0 = (0 : Int32) from rfl), gm_0l]; rfl
  rcases Nat.eq_zero_or_pos b with h1 | h1
  · subst h1; rw [if_neg (nI_ne0 h0 (by omega)), if_pos (show nI 0 = (0 : Int32) from rfl), gm_0]; rfl
  · have l1 := gp_gl a ha h0
    have l2 := gp_gl b hb h1
    rw [if_neg (nI_ne0 h0 (by omega)), if_neg (nI_ne0 h1 (by omega)), og_nI ha (by omega), og_nI hb (by omega), nI_clamp (by omega), nI_clamp (by omega), TF_lg h ha h0, TF_lg h hb h1, nI_add, og_nI (by omega) (by omega), nI_clamp (by omega), h.1 _ (by omega)]
    unfold gm
    rw [if_neg (by omega)]
theorem invR {pwr lg : Nat → Int32} (h : TabF pwr lg) {a : Nat} (ha : a < 256) (h0 : 0 < a) : fX10_inverse lg pwr (nI a) = some (nI (gi a)) := by
  unfold fX10_inverse
  have l1 := gp_gl a ha h0
  rw [og_nI ha (by omega), nI_clamp (by omega), TF_lg h ha h0, show (255 : Int32) - nI (gl a) = nI (255 - gl a) from pk_sub (a := 255) (by omega), og_nI (by omega) (by omega), nI_clamp (by omega), h.1 _ (by omega)]
  rfl
theorem powerR {pwr lg : Nat → Int32} (h : TabF pwr lg) {j n i : Nat} (hj : j ≤ 3) (hn : n ≤ 32) (hi : i < n) : fX10_power pwr (nI j) (nI n) (nI i) = some (nI (gp (j * (n - 1 - i)))) := by
  unfold fX10_power
  have hm : j * (n - 1 - i) ≤ 3 * 31 := Nat.mul_le_mul hj (by omega)
  rw [show nI n - (1 : Int32) = nI (n - 1) from pk_sub (b := 1) (by omega), pk_sub (by omega), pk_mul, show nI (j * (n - 1 - i)) / (255 : Int32) = nI (j * (n - 1 - i) / 255) from pk_div (d := 255) (by omega) (by omega) (by omega), show nI (j * (n - 1 - i) / 255) * (255 : Int32) = nI (j * (n - 1 - i) / 255 * 255) from pk_mul _ 255]
  generalize j * (n - 1 - i) = c at *
  rw [pk_sub (by omega), show c - c / 255 * 255 = c from by omega, og_nI (by omega) (by omega), nI_clamp (by omega), h.1 _ (by omega)]
theorem twiceC : ∀ x, x < 256 → fX2_twice (nI x) = nI (g2 x) := by decide +kernel
def syn (W : Nat → Nat) (j : Nat) : Nat → Nat
  | 0 => 0
  | k + 1 => mg j (syn W j k) ^^^ W k
theorem syn_lt {W : Nat → Nat} (hW : ∀ i, W i < 256) (j : Nat) : ∀ k, syn W j k < 256
  | 0 => by show 0 < 256; omega
  | k + 1 => x_lt (mg_lt (syn_lt hW j k) j) (hW k)
theorem sumUp_loop {j : Int32 → Int32 → Int32 → Int32 → Option (Nat → Int32)} {fr n A : Nat} {c : Nat → Int32} {W : Nat → Nat} (hA : A < 1000000) (hf : fr + n ≤ A) (hW : ∀ i, W i < 256) (hc : ∀ i, i < n → c (fr + i) &&& 255 = nI (W i)) : ∀ (F k : Nat), k ≤ n → n - k < F →
    fX0_sumUp_L35 (nI (fr + n)) j A c F (nI (fr + k)) (nI (syn W 3 k)) (nI (syn W 2 k)) (nI (syn W 1 k)) (nI (syn W 0 k)) = j (nI (syn W 3 n)) (nI (syn W 2 n)) (nI (syn W 1 n)) (nI (syn W 0 n)) := by
  intro F
  induction F with
  | zero => intro k _ h; omega
  | succ F ih =>
    intro k hk hF
    rw [fX0_sumUp_L35.eq_2]
    by_cases h1 : n ≤ k
    · rw [if_pos (nI_le (by omega) (by omega)), show k = n from by omega]
    · rw [if_neg (nI_ge (by omega) (by omega)), og_nI (by omega) (by omega)]
      simp only [nt1E, nmE]
      have s1 := syn_lt hW 1 k
      have s2 := syn_lt hW 2 k
      have s3 := syn_lt hW 3 k
      have t2 := g2_lt _ s2
      have t3 := g2_lt _ s3
      have t4 := g2_lt _ t3
      rw [nI_clamp (by omega), hc k (by omega), twiceC _ s1, twiceC _ s2, twiceC _ s3, twiceC _ t2, twiceC _ t3, twiceC _ t4, nx_xor, nx_xor, nx_xor, nx_xor, nI_1]
      exact ih (k + 1) (by omega) (by omega)
theorem sumUp_eq {fr n A : Nat} {c s : Nat → Int32} {W : Nat → Nat} (hA : A < 1000000) (hf : fr + n ≤ A) (hW : ∀ i, W i < 256) (hc : ∀ i, i < n → c (fr + i) &&& 255 = nI (W i)) : ∃ s', fX0_sumUp (nI n) s c A (nI fr) = some s' ∧ ∀ j, j < 4 → s' j = nI (syn W j n) := by
  unfold fX0_sumUp fX0_fits
  rw [if_neg (nI_pos (by omega)), show Int32.ofNat A - nI n = nI (A - n) from pk_sub (by omega), if_neg (nI_nlt (by omega) (by omega))]
  simp only [nt1E, nmE, jkE]
  rw [if_neg ne10, nI_add]
  have := sumUp_loop (j := fun x6_5 x5_6 x4_7 x3_8 => og (ixb 0 4) (og (ixb 1 4) (og (ixb 2 4) (og (ixb 3 4) (some (upd (upd (upd (upd s (Int32.toNatClampNeg 0) x3_8) (Int32.toNatClampNeg 1) x4_7) (Int32.toNatClampNeg 2) x5_6) (Int32.toNatClampNeg 3) x6_5)))))) hA hf hW hc FU 0 (by omega) (by rw [FU_eq]; omega)
  rw [Nat.add_zero] at this
  refine ⟨_, this, fun j hj => ?_⟩
  match j, hj with
  | 0, _ => rfl
  | 1, _ => rfl
  | 2, _ => rfl
  | 3, _ => rfl
theorem mg_add (x : Nat) (j : Nat) : ∀ m, mg (m + j) x = mg m (mg j x)
  | 0 => by rw [Nat.zero_add]; rfl
  | m + 1 => by rw [show m + 1 + j = (m + j) + 1 from by omega]; show g2 (mg (m + j) x) = g2 _; rw [mg_add x j m]
theorem gm_gpm {v : Nat} (hv : v < 256) (m : Nat) : gm v (gp m) = mg m v := by
  rcases Nat.eq_zero_or_pos v with h | h
  · subst h; rw [gm_0l, mg_0]
  · have := (gp_gl v hv h).1
    rw [← this, gm_gp, mg_gp]
theorem syr_eq {W : Nat → Nat} (hW : ∀ i, W i < 256) (j n : Nat) : ∀ k, k ≤ n → xs (fun i => gm (W i) (gp (j * (n - 1 - i)))) k = mg (j * (n - k)) (syn W j k)
  | 0, _ => by show 0 = mg _ 0; rw [mg_0]
  | k + 1, h => by
    show xs _ k ^^^ gm (W k) (gp (j * (n - 1 - k))) = mg (j * (n - (k + 1))) (mg j (syn W j k) ^^^ W k)
    rw [syr_eq hW j n k (by omega), mg_xor (mg_lt (syn_lt hW j k) j) (hW k), gm_gpm (hW k), ← mg_add, show n - k = n - (k + 1) + 1 from by omega, Nat.mul_succ, show n - 1 - k = n - (k + 1) from by omega]
theorem syr_n {W : Nat → Nat} (hW : ∀ i, W i < 256) (j n : Nat) : xs (fun i => gm (W i) (gp (j * (n - 1 - i)))) n = syn W j n := by
  rw [syr_eq hW j n n (Nat.le_refl _), Nat.sub_self, Nat.mul_zero]; rfl
theorem synR_in {jj : Int32 → Option (Nat → Int32)} {pwr lg : Nat → Int32} (hT : TabF pwr lg) {n j : Nat} {w : Nat → Int32} {W : Nat → Nat} (hn : n ≤ 32) (hj : j ≤ 3) (hW : ∀ i, W i < 256) (hw : ∀ i, i < n → w i = nI (W i)) : ∀ (F k : Nat), k ≤ n → n - k < F →
    fX10_findSyndromes_L12 (nI n) jj pwr (nI j) lg w F (nI k) (nI (xs (fun i => gm (W i) (gp (j * (n - 1 - i)))) k)) = jj (nI (syn W j n)) := by
  intro F
  induction F with
  | zero => intro k _ h; omega
  | succ F ih =>
    intro k hk hF
    rw [fX10_findSyndromes_L12.eq_2]
    by_cases h1 : n ≤ k
    · rw [if_pos (nI_le (by omega) (by omega)), show k = n from by omega, syr_n hW]
    · rw [if_neg (nI_ge (by omega) (by omega)), og_nI (by omega) (by omega), powerR hT hj hn (by omega), ob1E, nI_clamp (by omega), hw k (by omega), timesR hT (hW k) (gp_lt _), ob1E, nmE, nmE, nx_xor, nI_1]
      exact ih (k + 1) (by omega) (by omega)
theorem synR_out {pwr lg : Nat → Int32} (hT : TabF pwr lg) {n : Nat} {w : Nat → Int32} {W : Nat → Nat} (hn : n ≤ 32) (hW : ∀ i, W i < 256) (hw : ∀ i, i < n → w i = nI (W i)) : ∀ (F j : Nat) (s : Nat → Int32), j ≤ 4 → 4 - j < F → (∀ t, t < j → s t = nI (syn W t n)) →
    ∃ s', fX10_findSyndromes_L2 (nI n) pwr lg w F (nI j) s = some s' ∧ ∀ t, t < 4 → s' t = nI (syn W t n) := by
  intro F
  induction F with
  | zero => intro j s _ h; omega
  | succ F ih =>
    intro j s hj hF hs
    rw [fX10_findSyndromes_L2.eq_2]
    by_cases h1 : 4 ≤ j
    · rw [if_pos (show (4 : Int32) ≤ nI j from nI_le (a := 4) h1 (by omega))]
      exact ⟨s, rfl, fun t ht => hs t (by omega)⟩
    · rw [if_neg (show ¬ (4 : Int32) ≤ nI j from nI_ge (b := 4) (by omega) (by omega)), jkE]
      have := synR_in (jj := fun x3_5 => og (ixb (nI j) 4) (nm (upd s (Int32.toNatClampNeg (nI j)) x3_5) fun v_syndromes_8 => nm (nI j + 1 : Int32) fun x2_9 => fX10_findSyndromes_L2 (nI n) pwr lg w F x2_9 v_syndromes_8)) hT (j := j) hn (by omega) hW hw FU 0 (by omega) (by rw [FU_eq]; omega)
      have t2 : fX10_findSyndromes_L12 (nI n) (fun x3_5 => og (ixb (nI j) 4) (nm (upd s (Int32.toNatClampNeg (nI j)) x3_5) fun v_syndromes_8 => nm (nI j + 1 : Int32) fun x2_9 => fX10_findSyndromes_L2 (nI n) pwr lg w F x2_9 v_syndromes_8)) pwr (nI j) lg w FU 0 0 = _ := this
      rw [t2, og_nI (by omega) (by omega), nmE, nmE, nI_clamp (by omega), nI_1]
      refine ih (j + 1) _ (by omega) (by omega) (fun t ht => ?_)
      by_cases q : t = j
      · rw [q, pk_us]
      · rw [pk_un q]; exact hs t (by omega)
theorem findSyn_eq {pwr lg : Nat → Int32} (hT : TabF pwr lg) {n : Nat} {w s : Nat → Int32} {W : Nat → Nat} (hn : n ≤ 32) (hW : ∀ i, W i < 256) (hw : ∀ i, i < n → w i = nI (W i)) : ∃ s', fX10_findSyndromes lg pwr s w (nI n) = some s' ∧ ∀ t, t < 4 → s' t = nI (syn W t n) := by
  unfold fX10_findSyndromes
  exact synR_out hT hn hW hw FU 0 s (by omega) (by rw [FU_eq]; omega) (fun t ht => by omega)
/-! syndrome -/
theorem syL {j : (Nat → Int32) → Option (Int32 × Int32 × (Nat → Int32) × (Nat → Int32))} {be : Nat → Int32} : ∀ (F k : Nat) (w : Nat → Int32), k ≤ 32 → 32 - k < F → (∀ t, t < k → w t = be t) →
    ∃ w', fX10_syndrome_L21 j be F (nI k) w = j w' ∧ ∀ t, t < 32 → w' t = be t := by
  intro F
  induction F with
  | zero => intro k w _ h; omega
  | succ F ih =>
    intro k w hk hF hw
    rw [fX10_syndrome_L21.eq_2]
    by_cases h1 : 32 ≤ k
    · rw [if_pos (show (32 : Int32) ≤ nI k from nI_le (a := 32) h1 (by omega))]
      exact ⟨w, rfl, fun t ht => hw t (by omega)⟩
    · rw [if_neg (show ¬ (32 : Int32) ≤ nI k from nI_ge (b := 32) (by omega) (by omega)), og_nI (by omega) (by omega), og_nI (by omega) (by omega), nmE, nmE, nI_clamp (by omega), nI_1]
      refine ih (k + 1) _ (by omega) (by omega) (fun t ht => ?_)
      by_cases q : t = k
      · rw [q, pk_us]
      · rw [pk_un q]; exact hw t (by omega)
/-- the bench as numbers -/
def bW (mbe : Nat → Int32) (i : Nat) : Nat := (mbe i).toBitVec.toNat % 256
theorem bW_lt (mbe : Nat → Int32) (i : Nat) : bW mbe i < 256 := Nat.mod_lt _ (by omega)
theorem bW_eq {mk : Int32} {be mbe mmk : Nat → Int32} (h : IB mk be mbe mmk) {i : Nat} (hi : i < 32) : mbe i = nI (bW mbe i) ∧ be i &&& 255 = nI (bW mbe i) := by
  obtain ⟨h1, h2, h3, h4, h5⟩ := h i hi
  obtain ⟨a, ha, e⟩ := i_of h3
  have e2 : a < 256 := by rw [e, nI_ti ha] at h4; omega
  have e3 : bW mbe i = a := by
    unfold bW
    rw [e]
    show (BitVec.ofNat 32 a).toNat % 256 = a
    rw [BitVec.toNat_ofNat]
    omega
  rw [e3, ← e]
  exact ⟨rfl, h2⟩
theorem op_syndrome : OP36 Inv := by
  intro n xi xa xl mi ma y0 y1 hn h hy
  obtain ⟨hC, hS, hE, hB, hD, hP⟩ := id h
  obtain ⟨c4, c5, c7, c8, cT, cb, cw, cm, cR⟩ := id hC
  by_cases hg : 0 ≤ y1.toInt ∧ y1.toInt ≤ 3
  · obtain ⟨j, hj, rfl⟩ := i_of hg.1
    have hj2 := nI_ti hj
    have hj3 : j < 4 := by omega
    have main : ∀ (N : Nat) (sm : Nat → Int32), N ≤ 32 → ∃ s', fX0_sumOf (nI N) sm (xa 28) 32 0 (nI j) = some (nI (syn (bW (ma 27)) j N), s') := fun N sm hN => by
      obtain ⟨s', g1, g2⟩ := sumUp_eq (fr := 0) (n := N) (A := 32) (c := xa 28) (s := sm) (W := bW (ma 27)) (by omega) (by omega) (bW_lt _) (fun i hi => by rw [Nat.zero_add]; exact (bW_eq hB (by omega)).2)
      refine ⟨s', ?_⟩
      unfold fX0_sumOf
      have g1' : fX0_sumUp (nI N) sm (xa 28) 32 0 = _ := g1
      rw [g1', ob1E, if_neg (nI_pos (by omega)), if_neg (show ¬ (4 : Int32) ≤ nI j from nI_ge (b := 4) hj3 (by omega)), og_nI hj3 (by omega), nI_clamp (by omega), g2 j hj3]
    have mainR : ∀ N : Nat, N ≤ 32 → ∀ w : Nat → Int32, (∀ t, t < 32 → w t = ma 27 t) → ∃ s', fX10_findSyndromes (ma 3) (ma 2) (ma 13) w (nI N) = some s' ∧ s' j = nI (syn (bW (ma 27)) j N) := fun N hN w hw => by
      obtain ⟨s', g1, g2⟩ := findSyn_eq (n := N) (w := w) (s := ma 13) (W := bW (ma 27)) cR hN (bW_lt _) (fun i hi => by rw [hw i (by omega)]; exact (bW_eq hB (by omega)).1)
      exact ⟨s', g1, g2 j hj3⟩
    rcases hy with hy | hy
    · subst hy
      obtain ⟨s1, a1⟩ := main 28 (xa 15) (by omega)
      obtain ⟨w', w1, w2⟩ := syL (be := ma 27) (j := fun w => ob1 (fX10_findSyndromes (ma 3) (ma 2) (ma 13) w 28) fun v => og (ixb (nI j) 4) (some (v (Int32.toNatClampNeg (nI j)), 0, v, w))) FU 0 (ma 11) (by omega) (by rw [FU_eq]; omega) (fun t ht => by omega)
      obtain ⟨s2, b1, b2⟩ := mainR 28 (by omega) w' w2
      refine ⟨nI (syn (bW (ma 27)) j 28), xa 11, s1, nI (syn (bW (ma 27)) j 28), 0, s2, w', ?_, ?_, rfl, hC, hS, hE, hB, hD.mono, hP⟩
      · unfold fX9_syndrome
        have a1' : fX0_sumOf 28 (xa 15) (xa 28) 32 0 (nI j) = _ := a1
        rw [if_neg (nI_pos (by omega)), if_pos (show nI j ≤ (3 : Int32) from nI_le (b := 3) (by omega) (by omega)), if_pos rfl, c7, a1', ob2E]
      · unfold fX10_syndrome
        rw [in_1 (by rw [tl_i]; show (0 : Int) ≤ _ ∧ _ ≤ (3 : Int); omega), nt1E, if_neg ne10]
        simp only [jkE]
        have b1' : fX10_findSyndromes (ma 3) (ma 2) (ma 13) w' 28 = _ := b1
        have w1' : fX10_syndrome_L21 (fun w => ob1 (fX10_findSyndromes (ma 3) (ma 2) (ma 13) w 28) fun v => og (ixb (nI j) 4) (some (v (Int32.toNatClampNeg (nI j)), 0, v, w))) (ma 27) FU 0 (ma 11) = _ := w1
        simp only [if_true]
        rw [w1', b1', ob1E, og_nI hj3 (by omega), nI_clamp (by omega), b2]
    · subst hy
      obtain ⟨s1, a1⟩ := main 32 (xa 11) (by omega)
      obtain ⟨w', w1, w2⟩ := syL (be := ma 27) (j := fun w => ob1 (fX10_findSyndromes (ma 3) (ma 2) (ma 13) w 32) fun v => og (ixb (nI j) 4) (some (v (Int32.toNatClampNeg (nI j)), 0, v, w))) FU 0 (ma 11) (by omega) (by rw [FU_eq]; omega) (fun t ht => by omega)
      obtain ⟨s2, b1, b2⟩ := mainR 32 (by omega) w' w2
      refine ⟨nI (syn (bW (ma 27)) j 32), s1, xa 15, nI (syn (bW (ma 27)) j 32), 0, s2, w', ?_, ?_, rfl, hC, hS, hE, hB, hD.mono, hP⟩
      · unfold fX9_syndrome
        have a1' : fX0_sumOf 32 (xa 11) (xa 28) 32 0 (nI j) = _ := a1
        rw [if_neg (nI_pos (by omega)), if_pos (show nI j ≤ (3 : Int32) from nI_le (b := 3) (by omega) (by omega)), if_neg ne10, c4, a1', ob2E]
      · unfold fX10_syndrome
        rw [in_1 (by rw [tl_i]; show (0 : Int) ≤ _ ∧ _ ≤ (3 : Int); omega), nt1E, if_neg ne10]
        simp only [jkE]
        have b1' : fX10_findSyndromes (ma 3) (ma 2) (ma 13) w' 32 = _ := b1
        have w1' : fX10_syndrome_L21 (fun w => ob1 (fX10_findSyndromes (ma 3) (ma 2) (ma 13) w 32) fun v => og (ixb (nI j) 4) (some (v (Int32.toNatClampNeg (nI j)), 0, v, w))) (ma 27) FU 0 (ma 11) = _ := w1
        simp only [if_neg ne10]
        rw [w1', b1', ob1E, og_nI hj3 (by omega), nI_clamp (by omega), b2]
  · refine ⟨-1, xa 11, xa 15, -1, 0, ma 13, ma 11, ?_, ?_, rfl, hC, hS, hE, hB, hD.mono, hP⟩
    · unfold fX9_syndrome
      have e3 : (3 : Int32).toInt = 3 := by decide
      have e0 : (0 : Int32).toInt = 0 := by decide
      by_cases q : y1 < 0
      · rw [if_pos q]
      · have q' : ¬ y1.toInt < (0 : Int32).toInt := fun w => q (ti_lt.mpr w)
        rw [if_neg q, if_neg (fun w => by have := ti_le.mp w; omega)]
    · unfold fX10_syndrome
      rw [in_0 (by rw [tl_i]; show ¬ ((0 : Int) ≤ _ ∧ _ ≤ (3 : Int)); exact hg), nt1E, if_pos rfl]
