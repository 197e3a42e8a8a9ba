/-! ===== sums over the field, the operators T ===== -/
theorem x_lt {a b : Nat} (ha : a < 256) (hb : b < 256) : a ^^^ b < 256 := Nat.xor_lt_two_pow (n := 8) ha hb
def xs (f : Nat → Nat) : Nat → Nat
  | 0 => 0
  | k + 1 => xs f k ^^^ f k
theorem xs_lt {f : Nat → Nat} : ∀ k, (∀ t, t < k → f t < 256) → xs f k < 256
  | 0, _ => by show 0 < 256; omega
  | k + 1, h => x_lt (xs_lt k (fun t ht => h t (by omega))) (h k (by omega))
theorem xs_congr {f g : Nat → Nat} : ∀ k, (∀ t, t < k → f t = g t) → xs f k = xs g k
  | 0, _ => rfl
  | k + 1, h => by
    show xs f k ^^^ f k = xs g k ^^^ g k
    rw [xs_congr k (fun t ht => h t (by omega)), h k (by omega)]
theorem xor_4 (a b c d : Nat) : (a ^^^ b) ^^^ (c ^^^ d) = (a ^^^ c) ^^^ (b ^^^ d) := by
  rw [Nat.xor_assoc, xor_c b c d, ← Nat.xor_assoc]
theorem xs_xor (f g : Nat → Nat) : ∀ k, xs (fun t => f t ^^^ g t) k = xs f k ^^^ xs g k
  | 0 => (Nat.xor_self 0).symm
  | k + 1 => by
    show xs (fun t => f t ^^^ g t) k ^^^ (f k ^^^ g k) = (xs f k ^^^ f k) ^^^ (xs g k ^^^ g k)
    rw [xs_xor f g k, xor_4]
theorem xs_gm {f : Nat → Nat} {y : Nat} (hy : y < 256) : ∀ k, (∀ t, t < k → f t < 256) → gm (xs f k) y = xs (fun t => gm (f t) y) k
  | 0, _ => gm_0l y
  | k + 1, h => by
    show gm (xs f k ^^^ f k) y = _ ^^^ _
    rw [gm_xor (xs_lt k (fun t ht => h t (by omega))) (h k (by omega)) hy, xs_gm hy k (fun t ht => h t (by omega))]
theorem xs_zero {f : Nat → Nat} : ∀ k, (∀ t, t < k → f t = 0) → xs f k = 0
  | 0, _ => rfl
  | k + 1, h => by
    show xs f k ^^^ f k = 0
    rw [xs_zero k (fun t ht => h t (by omega)), h k (by omega), Nat.xor_self]
theorem xs_one {f : Nat → Nat} {s : Nat} : ∀ k, s < k → (∀ t, t < k → t ≠ s → f t = 0) → xs f k = f s
  | 0, h, _ => by omega
  | k + 1, h, h2 => by
    show xs f k ^^^ f k = f s
    by_cases q : s = k
    · subst q
      rw [xs_zero s (fun t ht => h2 t (by omega) (by omega)), Nat.zero_xor]
    · rw [xs_one k (by omega) (fun t ht => h2 t (by omega)), h2 k (by omega) (by omega), Nat.xor_zero]
theorem gm_mid {e p X : Nat} (he : e < 256) (hp : p < 256) (hX : X < 256) : gm (gm e X) p = gm (gm e p) X := by
  rw [gm_as e X p he hX hp, gm_comm X p, ← gm_as e p X he hp hX]
def xp (X : Nat) : Nat → Nat
  | 0 => 1
  | j + 1 => gm (xp X j) X
theorem xp_lt (X j : Nat) : xp X j < 256 := by
  cases j with
  | zero => show 1 < 256; omega
  | succ j => exact gm_lt _ _
theorem xp_gp (a : Nat) : ∀ j, xp (gp a) j = gp (j * a)
  | 0 => by rw [Nat.zero_mul]; rfl
  | j + 1 => by
    show gm (xp (gp a) j) (gp a) = _
    rw [xp_gp a j, gm_gp, Nat.succ_mul]
def ss (e X : Nat → Nat) (k j : Nat) : Nat := xs (fun t => gm (e t) (xp (X t) j)) k
theorem ss_lt (e X : Nat → Nat) (k j : Nat) : ss e X k j < 256 := xs_lt k (fun t _ => gm_lt _ _)
def tx (Y : Nat) (S : Nat → Nat) (j : Nat) : Nat := S (j + 1) ^^^ gm Y (S j)
theorem tx_lt {Y : Nat} {S : Nat → Nat} (h : ∀ j, S j < 256) (j : Nat) : tx Y S j < 256 := x_lt (h _) (gm_lt _ _)
theorem tx_ss {e X : Nat → Nat} {Y : Nat} (hX : ∀ t, X t < 256) (he : ∀ t, e t < 256) (hY : Y < 256) (k j : Nat) : tx Y (ss e X k) j = ss (fun t => gm (e t) (X t ^^^ Y)) X k j := by
  unfold tx ss
  rw [gm_comm Y, xs_gm hY k (fun t _ => gm_lt _ _), ← xs_xor]
  refine xs_congr k (fun t _ => ?_)
  show gm (e t) (gm (xp (X t) j) (X t)) ^^^ gm (gm (e t) (xp (X t) j)) Y = gm (gm (e t) (X t ^^^ Y)) (xp (X t) j)
  rw [gm_mid (he t) (xp_lt _ _) (x_lt (hX t) hY), gm_xor' (hX t) hY (gm_lt _ _), gm_as _ _ _ (he t) (xp_lt _ _) (hX t)]
/-- all places but the one numbered sk -/
def tk' (X : Nat → Nat) (sk : Nat) (S : Nat → Nat) : Nat → Nat → Nat
  | 0 => S
  | k + 1 => if k = sk then tk' X sk S k else tx (X k) (tk' X sk S k)
def pk' (X : Nat → Nat) (sk y : Nat) : Nat → Nat
  | 0 => 1
  | k + 1 => if k = sk then pk' X sk y k else gm (pk' X sk y k) (y ^^^ X k)
theorem tk_lt' {X S : Nat → Nat} {sk : Nat} (h : ∀ j, S j < 256) : ∀ k j, tk' X sk S k j < 256
  | 0, j => h j
  | k + 1, j => by
    show (if k = sk then tk' X sk S k else tx (X k) (tk' X sk S k)) j < 256
    by_cases q : k = sk
    · rw [if_pos q]; exact tk_lt' h k j
    · rw [if_neg q]; exact tx_lt (tk_lt' h k) j
theorem pk_lt' (X : Nat → Nat) (sk y : Nat) : ∀ k, pk' X sk y k < 256
  | 0 => by show 1 < 256; omega
  | k + 1 => by
    show (if k = sk then pk' X sk y k else gm (pk' X sk y k) (y ^^^ X k)) < 256
    by_cases q : k = sk
    · rw [if_pos q]; exact pk_lt' X sk y k
    · rw [if_neg q]; exact gm_lt _ _
theorem tx_congr {Y : Nat} {S R : Nat → Nat} {j : Nat} (h : S j = R j) (h2 : S (j + 1) = R (j + 1)) : tx Y S j = tx Y R j := by
  unfold tx; rw [h, h2]
theorem tk_congr {X S R : Nat → Nat} {sk M : Nat} (h : ∀ j, j < M → S j = R j) : ∀ k j, j + k < M → tk' X sk S k j = tk' X sk R k j
  | 0, j, hj => h j (by omega)
  | k + 1, j, hj => by
    show (if k = sk then tk' X sk S k else tx (X k) (tk' X sk S k)) j = (if k = sk then tk' X sk R k else tx (X k) (tk' X sk R k)) j
    by_cases q : k = sk
    · rw [if_pos q, if_pos q]; exact tk_congr h k j (by omega)
    · rw [if_neg q, if_neg q]; exact tx_congr (tk_congr h k j (by omega)) (tk_congr h k (j + 1) (by omega))
/-- with a place skipped one more row is right -/
theorem tk_congr1 {X S R : Nat → Nat} {sk M : Nat} (h : ∀ j, j < M → S j = R j) : ∀ k j, sk < k → j + k ≤ M → tk' X sk S k j = tk' X sk R k j
  | 0, j, hs, hj => by omega
  | k + 1, j, hs, hj => by
    show (if k = sk then tk' X sk S k else tx (X k) (tk' X sk S k)) j = (if k = sk then tk' X sk R k else tx (X k) (tk' X sk R k)) j
    by_cases q : k = sk
    · rw [if_pos q, if_pos q]; exact tk_congr h k j (by omega)
    · rw [if_neg q, if_neg q]; exact tx_congr (tk_congr1 h k j (by omega) (by omega)) (tk_congr1 h k (j + 1) (by omega) (by omega))
theorem tk_ss {e X : Nat → Nat} {sk : Nat} (hX : ∀ t, X t < 256) (he : ∀ t, e t < 256) (n : Nat) : ∀ k j, tk' X sk (ss e X n) k j = ss (fun t => gm (e t) (pk' X sk (X t) k)) X n j
  | 0, j => by
    refine xs_congr n (fun t _ => ?_)
    show gm (e t) _ = gm (gm (e t) 1) _
    rw [gm_comm (e t) 1, gm_1 (he t)]
  | k + 1, j => by
    show (if k = sk then tk' X sk (ss e X n) k else tx (X k) (tk' X sk (ss e X n) k)) j = ss (fun t => gm (e t) (if k = sk then pk' X sk (X t) k else gm (pk' X sk (X t) k) (X t ^^^ X k))) X n j
    by_cases q : k = sk
    · simp only [if_pos q]
      exact tk_ss hX he n k j
    · simp only [if_neg q]
      rw [tx_congr (tk_ss hX he n k j) (tk_ss hX he n k (j + 1)), tx_ss hX (fun t => gm_lt _ _) (hX k)]
      refine xs_congr n (fun t _ => ?_)
      show gm (gm (gm (e t) _) _) _ = gm (gm (e t) _) _
      rw [gm_as (e t) (pk' X sk (X t) k) (X t ^^^ X k) (he t) (pk_lt' _ _ _ _) (x_lt (hX t) (hX k))]
theorem pk_0 {X : Nat → Nat} {sk t : Nat} : ∀ k, t < k → t ≠ sk → pk' X sk (X t) k = 0
  | 0, h, _ => by omega
  | k + 1, h, hs => by
    show (if k = sk then pk' X sk (X t) k else gm (pk' X sk (X t) k) (X t ^^^ X k)) = 0
    by_cases q : k = sk
    · rw [if_pos q]; exact pk_0 k (by omega) hs
    · rw [if_neg q]
      by_cases q2 : t = k
      · rw [q2, Nat.xor_self, gm_0]
      · rw [pk_0 k (by omega) hs, gm_0l]
theorem pk_ne {X : Nat → Nat} {sk y : Nat} : ∀ k, (∀ t, t < k → t ≠ sk → y ≠ X t) → 0 < pk' X sk y k
  | 0, _ => by show 0 < 1; omega
  | k + 1, h => by
    show 0 < (if k = sk then pk' X sk y k else gm (pk' X sk y k) (y ^^^ X k))
    by_cases q : k = sk
    · rw [if_pos q]; exact pk_ne k (fun t ht => h t (by omega))
    · rw [if_neg q]
      refine gm_ne (pk_ne k (fun t ht => h t (by omega))) ?_
      rcases Nat.eq_zero_or_pos (y ^^^ X k) with w | w
      · exact absurd (xor_0 w) (h k (by omega) q)
      · exact w
/-- S is borne by k places -/
def Sol (S e X : Nat → Nat) (k : Nat) : Prop := ∀ j, j < 4 → S j = ss e X k j
theorem sol_val {S e X : Nat → Nat} {k s : Nat} (hk : k ≤ 4) (hX : ∀ t, X t < 256) (he : ∀ t, e t < 256) (h : Sol S e X k) (hs : s < k) : tk' X s S k 0 = gm (e s) (pk' X s (X s) k) := by
  rw [tk_congr1 (M := 4) h k 0 hs (by omega), tk_ss hX he]
  unfold ss
  rw [xs_one (s := s) k hs (fun t ht hts => by show gm (gm (e t) (pk' X s (X t) k)) _ = 0; rw [pk_0 k ht hts, gm_0, gm_0l])]
  show gm (gm _ _) 1 = _
  rw [gm_comm _ 1, gm_1 (gm_lt _ _)]
theorem sol_tk {S e X : Nat → Nat} {k : Nat} (hX : ∀ t, X t < 256) (he : ∀ t, e t < 256) (h : Sol S e X k) {sk : Nat} (hsk : k ≤ sk) : ∀ j, j + k < 4 → tk' X sk S k j = 0 := fun j hj => by
  rw [tk_congr (M := 4) h k j hj, tk_ss hX he]
  exact xs_zero k (fun t ht => by show gm (gm (e t) (pk' X sk (X t) k)) _ = 0; rw [pk_0 k ht (by omega), gm_0, gm_0l])
theorem sol_one {S e d X : Nat → Nat} {k : Nat} (hk : k ≤ 4) (hX : ∀ t, X t < 256) (hd : ∀ a b, a < k → b < k → a ≠ b → X a ≠ X b) (he : ∀ t, e t < 256) (hf : ∀ t, d t < 256) (h1 : Sol S e X k) (h2 : Sol S d X k) {s : Nat} (hs : s < k) : e s = d s := by
  have a := sol_val hk hX he h1 hs
  rw [sol_val hk hX hf h2 hs] at a
  exact (gm_cancel (hf s) (he s) (pk_lt' _ _ _ _) (pk_ne k (fun t ht hts => hd s t hs ht (fun q => hts q.symm))) a).symm
theorem tx_comm {Y Z : Nat} {S : Nat → Nat} (hY : Y < 256) (hZ : Z < 256) (h : ∀ j, S j < 256) (j : Nat) : tx Y (tx Z S) j = tx Z (tx Y S) j := by
  unfold tx
  rw [gm_xor' (h _) (gm_lt _ _) hY, gm_xor' (h _) (gm_lt _ _) hZ, ← gm_as Y Z _ hY hZ (h j), ← gm_as Z Y _ hZ hY (h j), gm_comm Y Z]
  generalize S (j + 1 + 1) = p
  generalize gm Y (S (j + 1)) = q
  generalize gm Z (S (j + 1)) = r
  generalize gm (gm Z Y) (S j) = t
  rw [Nat.xor_assoc, Nat.xor_assoc, ← Nat.xor_assoc r q t, ← Nat.xor_assoc q r t, Nat.xor_comm q r]
theorem tk_tx {X S : Nat → Nat} {sk Y : Nat} (hX : ∀ t, X t < 256) (hY : Y < 256) (h : ∀ j, S j < 256) : ∀ k j, tk' X sk (tx Y S) k j = tx Y (tk' X sk S k) j
  | 0, j => rfl
  | k + 1, j => by
    show (if k = sk then tk' X sk (tx Y S) k else tx (X k) (tk' X sk (tx Y S) k)) j = tx Y (if k = sk then tk' X sk S k else tx (X k) (tk' X sk S k)) j
    by_cases q : k = sk
    · rw [if_pos q, if_pos q]; exact tk_tx hX hY h k j
    · rw [if_neg q, if_neg q, tx_comm hY (hX k) (tk_lt' h k)]
      exact tx_congr (tk_tx hX hY h k j) (tk_tx hX hY h k (j + 1))
theorem geo {D : Nat → Nat} {Y M : Nat} (h0 : D 0 = 0) (h : ∀ j, j + 1 < M → tx Y D j = 0) : ∀ j, j < M → D j = 0
  | 0, _ => h0
  | j + 1, hj => by
    have a := h j hj
    unfold tx at a
    rw [geo h0 h j (by omega), gm_0, Nat.xor_zero] at a
    exact a
theorem gdiv {a b : Nat} (ha : a < 256) (hb : b < 256) (h0 : 0 < b) : gm (gm a (gi b)) b = a := by
  rw [gm_as a (gi b) b ha (gi_lt b) hb, gm_comm (gi b) b, gm_gi hb h0, gm_comm a 1, gm_1 ha]
theorem tx_xor {Y : Nat} {S R : Nat → Nat} (hY : Y < 256) (hS : ∀ j, S j < 256) (hR : ∀ j, R j < 256) (j : Nat) : tx Y (fun i => S i ^^^ R i) j = tx Y S j ^^^ tx Y R j := by
  unfold tx
  rw [gm_xor' (hS j) (hR j) hY, xor_4]
theorem sol_ex : ∀ (k M : Nat) (S X : Nat → Nat), k ≤ M → (∀ t, X t < 256) → (∀ j, S j < 256) → (∀ a b, a < k → b < k → a ≠ b → X a ≠ X b) → (∀ j, j + k < M → tk' X k S k j = 0) → ∃ e : Nat → Nat, (∀ t, e t < 256) ∧ ∀ j, j < M → S j = ss e X k j
  | 0, M, S, X, _, _, _, _, h => ⟨fun _ => 0, fun _ => by show 0 < 256; omega, fun j hj => h j (by omega)⟩
  | k + 1, M, S, X, hk, hX, hS, hd, h => by
    have hskip : ∀ (i sk sk' : Nat) (R : Nat → Nat), i ≤ sk → i ≤ sk' → tk' X sk R i = tk' X sk' R i := by
      intro i
      induction i with
      | zero => intro sk sk' R _ _; rfl
      | succ i ih =>
        intro sk sk' R h1 h2
        show (if i = sk then tk' X sk R i else tx (X i) (tk' X sk R i)) = (if i = sk' then tk' X sk' R i else tx (X i) (tk' X sk' R i))
        rw [if_neg (by omega), if_neg (by omega), ih sk sk' R (by omega) (by omega)]
    have h' : ∀ j, j + k < M - 1 → tk' X k (tx (X k) S) k j = 0 := fun j hj => by
      have a := h j (by omega)
      have b : tk' X (k + 1) S (k + 1) = tx (X k) (tk' X (k + 1) S k) := by
        show (if k = k + 1 then tk' X (k + 1) S k else tx (X k) (tk' X (k + 1) S k)) = _
        rw [if_neg (by omega)]
      rw [b, hskip k (k + 1) k S (by omega) (by omega)] at a
      rw [tk_tx hX (hX k) hS]
      exact a
    obtain ⟨e', he', hs'⟩ := sol_ex k (M - 1) (tx (X k) S) X (by omega) hX (tx_lt hS) (fun a b ha hb => hd a b (by omega) (by omega)) h'
    have hne : ∀ t, t < k → 0 < X t ^^^ X k := fun t ht => by
      rcases Nat.eq_zero_or_pos (X t ^^^ X k) with w | w
      · exact absurd (xor_0 w) (hd t k (by omega) (by omega) (by omega))
      · exact w
    let d : Nat → Nat := fun t => gm (e' t) (gi (X t ^^^ X k))
    have hdl : ∀ t, d t < 256 := fun t => gm_lt _ _
    let e : Nat → Nat := fun t => if t = k then S 0 ^^^ ss d X k 0 else d t
    have hel : ∀ t, e t < 256 := fun t => by
      show (if t = k then S 0 ^^^ ss d X k 0 else d t) < 256
      by_cases q : t = k
      · rw [if_pos q]; exact x_lt (hS 0) (ss_lt _ _ _ _)
      · rw [if_neg q]; exact hdl t
    have hes : ∀ j, ss e X (k + 1) j = ss d X k j ^^^ gm (S 0 ^^^ ss d X k 0) (xp (X k) j) := fun j => by
      show xs _ k ^^^ gm (if k = k then S 0 ^^^ ss d X k 0 else d k) (xp (X k) j) = _
      rw [if_pos rfl]
      congr 1
      exact xs_congr k (fun t ht => by show gm (if t = k then _ else d t) _ = _; rw [if_neg (by omega)])
    refine ⟨e, hel, fun j hj => ?_⟩
    have hD := geo (D := fun i => S i ^^^ ss e X (k + 1) i) (Y := X k) (M := M) (by
      show S 0 ^^^ ss e X (k + 1) 0 = 0
      rw [hes 0, show xp (X k) 0 = 1 from rfl, gm_comm _ 1, gm_1 (x_lt (hS 0) (ss_lt _ _ _ _)), xor_c (ss d X k 0), Nat.xor_self, Nat.xor_zero, Nat.xor_self]) (fun i hi => by
      rw [tx_xor (hX k) hS (fun j => ss_lt _ _ _ _), tx_ss hX hel (hX k), hs' i (by omega)]
      have : ss (fun t => gm (e t) (X t ^^^ X k)) X (k + 1) i = ss e' X k i := by
        show xs _ k ^^^ gm (gm (e k) (X k ^^^ X k)) _ = _
        rw [Nat.xor_self, gm_0, gm_0l, Nat.xor_zero]
        refine xs_congr k (fun t ht => ?_)
        show gm (gm (if t = k then _ else d t) _) _ = _
        rw [if_neg (by omega)]
        show gm (gm (gm (e' t) (gi (X t ^^^ X k))) (X t ^^^ X k)) _ = _
        rw [gdiv (he' t) (x_lt (hX t) (hX k)) (hne t ht)]
      rw [this, Nat.xor_self]) j hj
    exact xor_0 hD
