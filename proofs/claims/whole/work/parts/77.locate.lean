/-! ===== locate ===== -/
theorem tk_skip {X : Nat → Nat} : ∀ (i sk sk' : Nat) (R : Nat → Nat), i ≤ sk → i ≤ sk' → tk' X sk R i = tk' X sk' R i := by
  intro i
  induction i with
  | zero => intro sk sk' R _ _; rfl
  | succ i ih =>
    intro sk sk' R h1 h2
    show (if i = sk then tk' X sk R i else tx (X i) (tk' X sk R i)) = (if i = sk' then tk' X sk' R i else tx (X i) (tk' X sk' R i))
    rw [if_neg (by omega), if_neg (by omega), ih sk sk' R (by omega) (by omega)]
theorem tk_X {X Y : Nat → Nat} {sk : Nat} {R : Nat → Nat} : ∀ i, (∀ t, t < i → X t = Y t) → tk' X sk R i = tk' Y sk R i := by
  intro i
  induction i with
  | zero => intro _; rfl
  | succ i ih =>
    intro h
    show (if i = sk then tk' X sk R i else tx (X i) (tk' X sk R i)) = (if i = sk then tk' Y sk R i else tx (Y i) (tk' Y sk R i))
    rw [ih (fun t ht => h t (by omega)), h i (by omega)]
/-- what is left when the k places are taken out -/
def rT (X S : Nat → Nat) (k : Nat) : Nat → Nat := tk' X 9 S k
def Solv (S X : Nat → Nat) (k : Nat) : Prop := ∃ e : Nat → Nat, (∀ t, e t < 256) ∧ Sol S e X k
theorem solv_iff {S X : Nat → Nat} {k : Nat} (hk : k ≤ 4) (hX : ∀ t, X t < 256) (hS : ∀ j, S j < 256) (hd : ∀ a b, a < k → b < k → a ≠ b → X a ≠ X b) : Solv S X k ↔ ∀ j, j + k < 4 → rT X S k j = 0 := by
  constructor
  · intro ⟨e, he, hs⟩ j hj
    exact sol_tk hX he hs (by omega) j hj
  · intro h
    exact sol_ex k 4 S X hk hX hS hd (fun j hj => by rw [tk_skip k k 9 S (by omega) (by omega)]; exact h j hj)
def exP (P : Nat → Nat) (m i : Nat) : Nat → Nat := fun t => if t = m then i else P t
/-- one more place, i, would do -/
def One (n : Nat) (R : Nat → Nat) (L i : Nat) : Prop := ∀ j, j + 1 < L → R (j + 1) = gm (gp (n - 1 - i)) (R j)
theorem solv_one {n m i : Nat} {P S : Nat → Nat} (hm : m ≤ 3) (hn : n ≤ 32) (hS : ∀ j, S j < 256) (hP : ∀ t, t < m → P t < n) (hi : i < n) (hd : ∀ a b, a < m → b < m → a ≠ b → P a ≠ P b) (hdi : ∀ a, a < m → P a ≠ i) : Solv S (fun t => gp (n - 1 - exP P m i t)) (m + 1) ↔ One n (rT (fun t => gp (n - 1 - P t)) S m) (4 - m) i := by
  have hX : ∀ t, (fun t => gp (n - 1 - exP P m i t)) t < 256 := fun t => gp_lt _
  have hex : ∀ t, t < m → exP P m i t = P t := fun t ht => if_neg (by omega)
  have hem : exP P m i m = i := if_pos rfl
  have hdX := X_ne (k := m + 1) (P := exP P m i) hn (fun t ht => by
    by_cases q : t = m
    · rw [q, hem]; exact hi
    · rw [hex t (by omega)]; exact hP t (by omega)) (fun a b ha hb hab => by
    by_cases qa : a = m
    · rw [qa, hem, hex b (by omega)]; exact fun w => hdi b (by omega) w.symm
    · by_cases qb : b = m
      · rw [qb, hem, hex a (by omega)]; exact hdi a (by omega)
      · rw [hex a (by omega), hex b (by omega)]; exact hd a b (by omega) (by omega) hab)
  rw [solv_iff (by omega) hX hS hdX]
  have key : ∀ j, rT (fun t => gp (n - 1 - exP P m i t)) S (m + 1) j = rT (fun t => gp (n - 1 - P t)) S m (j + 1) ^^^ gm (gp (n - 1 - i)) (rT (fun t => gp (n - 1 - P t)) S m j) := fun j => by
    show (if m = 9 then _ else tx (gp (n - 1 - exP P m i m)) (tk' _ 9 S m)) j = _
    rw [if_neg (by omega), hem, tk_X (Y := fun t => gp (n - 1 - P t)) m (fun t ht => by show gp _ = gp _; rw [hex t ht])]
    rfl
  constructor
  · intro h j hj
    have := h j (by omega)
    rw [key] at this
    exact xor_0 this
  · intro h j hj
    rw [key, h j (by omega), Nat.xor_self]
theorem One_nz {n L i : Nat} {R : Nat → Nat} (h : One n R L i) (h0 : R 0 = 0) : ∀ j, j < L → R j = 0
  | 0, _ => h0
  | j + 1, hj => by rw [h j hj, One_nz h h0 j (by omega), gm_0]
theorem gdiv' {a b c : Nat} (ha : a < 256) (hb : b < 256) (h0 : 0 < b) (h : a = gm c b) (hc : c < 256) : gm a (gi b) = c := by
  rw [h, gm_as c b (gi b) hc hb (gi_lt b), gm_gi hb h0, gm_comm c 1, gm_1 hc]
theorem One_eq {n L i : Nat} {R : Nat → Nat} (hR : ∀ j, R j < 256) (hL : 2 ≤ L) (h0 : 0 < R 0) (h : One n R L i) : gm (R 1) (gi (R 0)) = gp (n - 1 - i) := gdiv' (hR 1) (hR 0) h0 (h 0 (by omega)) (gp_lt _)
theorem One_uniq {n L i i' : Nat} {R : Nat → Nat} (hn : n ≤ 32) (hi : i < n) (hi' : i' < n) (hR : ∀ j, R j < 256) (hL : 2 ≤ L) (h0 : 0 < R 0) (h : One n R L i) (h' : One n R L i') : i = i' := by
  have a := One_eq hR hL h0 h
  rw [One_eq hR hL h0 h'] at a
  have w2 : gl (gp (n - 1 - i')) = gl (gp (n - 1 - i)) := congrArg gl a
  rw [gl_gp0 _ (by omega), gl_gp0 _ (by omega)] at w2
  omega
theorem restL {jj : Int32 → (Nat → Int32) → Option (Int32 × Int32 × (Nat → Int32) × (Nat → Int32) × (Nat → Int32))} {pwr lg : Nat → Int32} (hT : TabF pwr lg) {d : Nat} {q S : Nat → Nat} {loc sums : Nat → Int32} (hd : d ≤ 4) (hl : ∀ c, c < 5 → loc c = nI (q c)) (hq : ∀ c, q c < 256) (hs : ∀ t, t < 4 → sums t = nI (S t)) (hS : ∀ t, S t < 256) : ∀ (F j : Nat) (rest : Nat → Int32) (g : Bool), j ≤ 4 - d → 4 - d - j < F → (∀ t, t < j → rest t = nI (pv q d S t)) →
    ∃ (g' : Bool) (rest' : Nat → Int32), fX0_locate_L12 (nI d) jj loc sums lg pwr F (nI j) (b01 g) rest = jj (b01 g') rest' ∧ (∀ t, t < 4 - d → rest' t = nI (pv q d S t)) ∧ (g' = true ↔ (g = true ∧ ∀ t, j ≤ t → t < 4 - d → pv q d S t = 0)) := by
  intro F
  induction F with
  | zero => intro j rest g _ h; omega
  | succ F ih =>
    intro j rest g hj hF hr
    rw [fX0_locate_L12.eq_2, show (4 : Int32) - nI d = nI (4 - d) from pk_sub (a := 4) hd]
    by_cases h1 : 4 - d ≤ j
    · rw [if_pos (nI_le h1 (by omega))]
      exact ⟨g, rest, rfl, fun t ht => hr t (by omega), ⟨fun w => ⟨w, fun t t1 t2 => by omega⟩, fun w => w.1⟩⟩
    · rw [if_neg (nI_ge (by omega) (by omega)), without_eq hT (by omega) hl hq hs hS, ob1E, og_nI (by omega) (by omega)]
      simp only [jkE, nmE]
      rw [og_nI (by omega) (by omega), nI_clamp (by omega), pk_us, nI_1]
      have hpv : pv q d S j < 256 := xs_lt _ (fun t _ => gm_lt _ _)
      have hr2 : ∀ t, t < j + 1 → upd rest j (nI (pv q d S j)) t = nI (pv q d S t) := fun t ht => by
        by_cases w : t = j
        · rw [w, pk_us]
        · rw [pk_un w]; exact hr t (by omega)
      by_cases h2 : pv q d S j = 0
      · rw [if_pos (by rw [h2]; rfl), show b01 g &&& (1 : Int32) = b01 g from by cases g <;> rfl]
        obtain ⟨g', rest', w1, w2, w3⟩ := ih (j + 1) _ g (by omega) (by omega) hr2
        refine ⟨g', rest', w1, w2, ⟨fun z => ⟨(w3.mp z).1, fun t t1 t2 => ?_⟩, fun z => w3.mpr ⟨z.1, fun t t1 t2 => z.2 t (by omega) t2⟩⟩⟩
        by_cases w : t = j
        · rw [w]; exact h2
        · exact (w3.mp z).2 t (by omega) t2
      · rw [if_neg (nI_ne0 (by omega) (by omega)), show b01 g &&& (0 : Int32) = b01 false from by cases g <;> rfl]
        obtain ⟨g', rest', w1, w2, w3⟩ := ih (j + 1) _ false (by omega) (by omega) hr2
        refine ⟨g', rest', w1, w2, ⟨fun z => absurd (w3.mp z).1 (by decide), fun z => absurd (z.2 j (by omega) (by omega)) h2⟩⟩
theorem oneL {jj : Option (Int32 × Int32 × (Nat → Int32))} {pwr lg : Nat → Int32} (hT : TabF pwr lg) {L : Nat} {R : Nat → Nat} {rest spots : Nat → Int32} {sp : Int32} (hL : L ≤ 4) (hr : ∀ t, t < L → rest t = nI (R t)) (hR : ∀ j, R j < 256) : ∀ (F j : Nat), 2 ≤ j → 2 ≤ L → j ≤ L → L - j < F →
    (fX0_locateOne_L32 (nI L) jj lg pwr rest sp spots F (nI j) = jj ∧ ∀ t, j ≤ t → t < L → gm (R t) (R 0) = gm (R (t - 1)) (R 1)) ∨ (fX0_locateOne_L32 (nI L) jj lg pwr rest sp spots F (nI j) = some (0, sp, spots) ∧ ¬ ∀ t, j ≤ t → t < L → gm (R t) (R 0) = gm (R (t - 1)) (R 1)) := by
  intro F
  induction F with
  | zero => intro j _ _ _ h; omega
  | succ F ih =>
    intro j hj2 hL2 hj hF
    rw [fX0_locateOne_L32.eq_2]
    by_cases h1 : L ≤ j
    · rw [if_pos (nI_le h1 (by omega))]
      exact Or.inl ⟨rfl, fun t t1 t2 => by omega⟩
    · rw [if_neg (nI_ge (by omega) (by omega)), og_nI (by omega) (by omega), og_t (show ixb 0 4 = true from rfl), nI_clamp (by omega), hr j (by omega), show (0 : Int32).toNatClampNeg = 0 from rfl, hr 0 (by omega), timesC hT (hR _) (hR _), ob1E, show nI j - (1 : Int32) = nI (j - 1) from pk_sub (b := 1) (by omega), og_nI (by omega) (by omega), og_t (show ixb 1 4 = true from rfl), nI_clamp (by omega), hr (j - 1) (by omega), show (1 : Int32).toNatClampNeg = 1 from rfl, hr 1 (by omega), timesC hT (hR _) (hR _), ob1E]
      have l1 := gm_lt (R j) (R 0)
      have l2 := gm_lt (R (j - 1)) (R 1)
      by_cases h2 : gm (R j) (R 0) = gm (R (j - 1)) (R 1)
      · rw [if_pos (by rw [h2]), nmE, nI_1]
        rcases ih (j + 1) (by omega) hL2 (by omega) (by omega) with ⟨w1, w2⟩ | ⟨w1, w2⟩
        · refine Or.inl ⟨w1, fun t t1 t2 => ?_⟩
          by_cases w : t = j
          · rw [w]; exact h2
          · exact w2 t (by omega) t2
        · exact Or.inr ⟨w1, fun z => w2 (fun t t1 t2 => z t (by omega) t2)⟩
      · rw [if_neg (fun w => h2 ((nI_eq (by omega) (by omega)).mp w))]
        exact Or.inr ⟨rfl, fun z => h2 (z j (by omega) (by omega))⟩
theorem addSpot_eq {m : Nat} {spots : Nat → Int32} {x : Int32} (hm : m < 4) : fX0_addSpot (nI m) spots x = some (nI (m + 1), upd spots m x) := by
  unfold fX0_addSpot
  rw [if_neg (nI_pos (by omega)), if_neg (show ¬ (4 : Int32) ≤ nI m from nI_ge (b := 4) hm (by omega)), og_nI hm (by omega), nmE, nmE, nI_clamp (by omega), show nI m + (1 : Int32) = nI (m + 1) from nI_1 m]
theorem addSpot_4 {spots : Nat → Int32} {x : Int32} : fX0_addSpot (nI 4) spots x = some (nI 4, spots) := by
  unfold fX0_addSpot
  rw [if_neg (by decide), if_pos (by decide)]
theorem locOne_eq {pwr lg : Nat → Int32} (hT : TabF pwr lg) {n m : Nat} {R : Nat → Nat} {rest spots : Nat → Int32} {marks : Int32} (hn : n ≤ 32) (hm : m ≤ 2) (hr : ∀ t, t < 4 - m → rest t = nI (R t)) (hR : ∀ j, R j < 256) :
    (∃ i, i < n ∧ bt marks i = false ∧ 0 < R 0 ∧ One n R (4 - m) i ∧ fX0_locateOne (nI n) (nI m) rest spots lg pwr marks (nI (4 - m)) = some (1, nI (m + 1), upd spots m (nI i))) ∨ (fX0_locateOne (nI n) (nI m) rest spots lg pwr marks (nI (4 - m)) = some (0, nI m, spots) ∧ (R 0 = 0 ∨ ∀ i, i < n → bt marks i = false → ¬ One n R (4 - m) i)) := by
  unfold fX0_locateOne
  rw [if_neg (show ¬ nI (4 - m) < (2 : Int32) from nI_nlt (b := 2) (by omega) (by omega)), if_neg (show ¬ (4 : Int32) < nI (4 - m) from nI_nlt (a := 4) (by omega) (by omega)), og_t (show ixb 0 4 = true from rfl), og_t (show ixb 1 4 = true from rfl), show (0 : Int32).toNatClampNeg = 0 from rfl, show (1 : Int32).toNatClampNeg = 1 from rfl, hr 0 (by omega), hr 1 (by omega)]
  have l0 := hR 0
  have l1 := hR 1
  rcases Nat.eq_zero_or_pos (R 0) with h0 | h0
  · rw [if_pos (by rw [h0]; rfl)]
    exact Or.inr ⟨rfl, Or.inl h0⟩
  rw [if_neg (nI_ne0 h0 (by omega))]
  rcases Nat.eq_zero_or_pos (R 1) with h1 | h1
  · rw [if_pos (by rw [h1]; rfl)]
    refine Or.inr ⟨rfl, Or.inr (fun i _ _ ho => ?_)⟩
    have := ho 0 (by omega)
    rw [show 0 + 1 = 1 from rfl, h1] at this
    have := gm_ne (gp_pos (n - 1 - i)) h0
    omega
  rw [if_neg (nI_ne0 h1 (by omega))]
  simp only [jkE, nmE]
  rw [og_t (show ixb 1 4 = true from rfl), og_t (show ixb 0 4 = true from rfl)]
  have lq : 0 < gm (R 1) (gi (R 0)) := gm_ne h1 (gp_pos _)
  have lq2 := gm_lt (R 1) (gi (R 0))
  have lg2 := gp_gl _ lq2 lq
  rcases oneL (jj := ob1 (fX2_over lg pwr (nI (R 1)) (nI (R 0))) fun r_10 => ob1 (fX2_log lg r_10) fun r_12 => if (((nI n - (1 : Int32)) - r_12)) < 0 then some (0, nI m, spots) else if ((UInt32.toInt32 (Int32.toUInt32 marks >>> (Int32.toUInt32 ((nI n - (1 : Int32)) - r_12) &&& Int32.toUInt32 31))) &&& (1 : Int32)) = (1 : Int32) then some (0, nI m, spots) else ob2 (fX0_addSpot (nI m) spots ((nI n - (1 : Int32)) - r_12)) fun v_spotted_17 v_spots_18 => some (1, v_spotted_17, v_spots_18)) (sp := nI m) (spots := spots) hT (L := 4 - m) (by omega) hr hR FU 2 (by omega) (by omega) (by omega) (by rw [FU_eq]; omega) with ⟨w1, w2⟩ | ⟨w1, w2⟩
  · have w1' : fX0_locateOne_L32 (nI (4 - m)) _ lg pwr rest (nI m) spots FU 2 = _ := w1
    rw [w1', overC hT l1 l0 h0, ob1E, logC hT lq2 lq, ob1E, show nI n - (1 : Int32) = dn n from dn_m n]
    by_cases hn0 : gl (gm (R 1) (gi (R 0))) < n
    · have e1 : dn n - nI (gl (gm (R 1) (gi (R 0)))) = nI (n - 1 - gl (gm (R 1) (gi (R 0)))) := by
        rw [← dn_m, show nI n - (1 : Int32) = nI (n - 1) from pk_sub (b := 1) (by omega), pk_sub (by omega)]
      have hOne : One n R (4 - m) (n - 1 - gl (gm (R 1) (gi (R 0)))) := fun j hj => by
        rw [show n - 1 - (n - 1 - gl (gm (R 1) (gi (R 0)))) = gl (gm (R 1) (gi (R 0))) from by omega, lg2.1]
        have c0 : gm (gm (R 1) (gi (R 0))) (R 0) = R 1 := gdiv l1 l0 h0
        cases j with
        | zero => exact c0.symm
        | succ j =>
          have a := w2 (j + 2) (by omega) (by omega)
          rw [show j + 2 - 1 = j + 1 from rfl] at a
          refine gm_cancel (hR _) (gm_lt _ _) l0 h0 ?_
          rw [show j + 1 + 1 = j + 2 from rfl, a]
          have e3 : gm (R (j + 1)) (R 1) = gm (R (j + 1)) (gm (gm (R 1) (gi (R 0))) (R 0)) := by rw [c0]
          rw [e3, ← gm_as _ _ _ (hR _) (gm_lt _ _) l0, gm_comm (R (j + 1))]
      rw [e1, if_neg (nI_pos (by omega)), bt_tst marks _ (by omega)]
      cases hb : bt marks (n - 1 - gl (gm (R 1) (gi (R 0)))) with
      | false =>
        rw [if_neg (show ¬ b01 false = (1 : Int32) from by decide), addSpot_eq (by omega), ob2E]
        exact Or.inl ⟨_, by omega, hb, h0, hOne, rfl⟩
      | true =>
        rw [if_pos (show b01 true = (1 : Int32) from rfl)]
        refine Or.inr ⟨rfl, Or.inr (fun i hi hbi ho => ?_)⟩
        have := One_uniq hn hi (by omega) hR (by omega) h0 ho hOne
        rw [this, hb] at hbi
        exact absurd hbi (by decide)
    · have e1 : dn n - nI (gl (gm (R 1) (gi (R 0)))) < 0 := by
        rw [← dn_m]
        have b1 := nI_ti (n := n) (by omega)
        have b2 := nI_ti (n := gl (gm (R 1) (gi (R 0)))) (by omega)
        have b3 : (1 : Int32).toInt = 1 := by decide
        have b4 : (0 : Int32).toInt = 0 := by decide
        refine ti_lt.mpr ?_
        have b5 : (nI n - (1 : Int32)).toInt = n - 1 := by rw [ti_sub (by omega) (by omega), b1, b3]
        rw [ti_sub (by omega) (by omega)]; omega
      rw [if_pos e1]
      refine Or.inr ⟨rfl, Or.inr (fun i hi hbi ho => ?_)⟩
      have a := One_eq hR (by omega) h0 ho
      rw [a, gl_gp0 _ (by omega)] at hn0
      omega
  · have w1' : fX0_locateOne_L32 (nI (4 - m)) _ lg pwr rest (nI m) spots FU 2 = _ := w1
    rw [w1']
    refine Or.inr ⟨rfl, Or.inr (fun i hi hbi ho => w2 (fun t t1 t2 => ?_))⟩
    have a1 := ho (t - 1) (by omega)
    have a2 := ho 0 (by omega)
    rw [show t - 1 + 1 = t from by omega] at a1
    rw [a1, show (0 + 1) = 1 from rfl] at *
    rw [a2, gm_comm (gp (n - 1 - i)) (R (t - 1)), gm_as _ _ _ (hR _) (gp_lt _) l0]
