/-! ===== heal and mended: the same fate, the same word ===== -/
def sS (W : Nat → Nat) (n j : Nat) : Nat := syn W j n
def xX (n : Nat) (P : Nat → Nat) : Nat → Nat := fun t => gp (n - 1 - P t)
def Sgl (n : Nat) (mk : Int32) (S : Nat → Nat) (i : Nat) : Prop := i < n ∧ bt mk i = false ∧ Solv S (xX n (exP (mP (bt mk) n) (pop (bt mk) n) i)) (pop (bt mk) n + 1)
def D0 (n : Nat) (mk : Int32) (S : Nat → Nat) : Prop := Solv S (xX n (mP (bt mk) n)) (pop (bt mk) n)
def D1 (n q : Nat) (mk : Int32) (S : Nat → Nat) : Prop := 1 ≤ q ∧ pop (bt mk) n ≤ 2 ∧ ∃ i, Sgl n mk S i
/-- k places P are to be changed -/
def Dc (n q : Nat) (mk : Int32) (S : Nat → Nat) (k : Nat) (P : Nat → Nat) : Prop :=
  (D0 n mk S ∧ k = pop (bt mk) n ∧ P = mP (bt mk) n) ∨
  (¬ D0 n mk S ∧ 1 ≤ q ∧ pop (bt mk) n ≤ 2 ∧ ∃ i, Sgl n mk S i ∧ k = pop (bt mk) n + 1 ∧ P = exP (mP (bt mk) n) (pop (bt mk) n) i) ∨
  (¬ D0 n mk S ∧ ¬ D1 n q mk S ∧ q = 2 ∧ pop (bt mk) n = 0 ∧ 0 < dW S ∧ pop (rtB n S) n = 2 ∧ k = 2 ∧ P = mP (rtB n S) n)
theorem mk_ok {n : Nat} {mk : Int32} : (∀ t, t < pop (bt mk) n → mP (bt mk) n t < n) ∧ ∀ a b, a < pop (bt mk) n → b < pop (bt mk) n → a ≠ b → mP (bt mk) n a ≠ mP (bt mk) n b := ⟨fun t ht => (mP_ok _ n t ht).1, fun a b ha hb hab => mP_ne ha hb hab⟩
theorem ex_ok {n i : Nat} {mk : Int32} (hi : i < n) (hb : bt mk i = false) : (∀ t, t < pop (bt mk) n + 1 → exP (mP (bt mk) n) (pop (bt mk) n) i t < n) ∧ (∀ a, a < pop (bt mk) n → mP (bt mk) n a ≠ i) ∧ ∀ a b, a < pop (bt mk) n + 1 → b < pop (bt mk) n + 1 → a ≠ b → exP (mP (bt mk) n) (pop (bt mk) n) i a ≠ exP (mP (bt mk) n) (pop (bt mk) n) i b := by
  have hne : ∀ a, a < pop (bt mk) n → mP (bt mk) n a ≠ i := fun a ha w => by
    have := (mP_ok (bt mk) n a ha).2
    rw [w, hb] at this
    exact absurd this (by decide)
  refine ⟨fun t ht => ?_, hne, fun a b ha hb2 hab => ?_⟩
  · unfold exP
    by_cases w : t = pop (bt mk) n
    · rw [if_pos w]; exact hi
    · rw [if_neg w]; exact mk_ok.1 t (by omega)
  · unfold exP
    by_cases wa : a = pop (bt mk) n
    · rw [if_pos wa, if_neg (by omega)]; exact fun w => hne b (by omega) w.symm
    · by_cases wb : b = pop (bt mk) n
      · rw [if_neg wa, if_pos wb]; exact hne a (by omega)
      · rw [if_neg wa, if_neg wb]; exact mk_ok.2 a b (by omega) (by omega) hab
theorem sgl_one {n i : Nat} {mk : Int32} {S : Nat → Nat} (hn : n ≤ 32) (hm : pop (bt mk) n ≤ 3) (hS : ∀ j, S j < 256) : Sgl n mk S i ↔ i < n ∧ bt mk i = false ∧ One n (rT (xX n (mP (bt mk) n)) S (pop (bt mk) n)) (4 - pop (bt mk) n) i := by
  unfold Sgl
  constructor
  · intro ⟨h1, h2, h3⟩
    exact ⟨h1, h2, (solv_one hm hn hS mk_ok.1 h1 mk_ok.2 (ex_ok h1 h2).2.1).mp h3⟩
  · intro ⟨h1, h2, h3⟩
    exact ⟨h1, h2, (solv_one hm hn hS mk_ok.1 h1 mk_ok.2 (ex_ok h1 h2).2.1).mpr h3⟩
theorem D0_iff {n : Nat} {mk : Int32} {S : Nat → Nat} (hn : n ≤ 32) (hm : pop (bt mk) n ≤ 4) (hS : ∀ j, S j < 256) : D0 n mk S ↔ ∀ j, j + pop (bt mk) n < 4 → rT (xX n (mP (bt mk) n)) S (pop (bt mk) n) j = 0 :=
  solv_iff hm (fun t => gp_lt _) hS (X_ne hn mk_ok.1 mk_ok.2)
theorem rT_lt {X S : Nat → Nat} {k : Nat} (hS : ∀ j, S j < 256) (j : Nat) : rT X S k j < 256 := tk_lt' hS k j
theorem R0_pos {n i : Nat} {mk : Int32} {S : Nat → Nat} (hn : n ≤ 32) (hm : pop (bt mk) n ≤ 2) (hS : ∀ j, S j < 256) (h0 : ¬ D0 n mk S) (h : One n (rT (xX n (mP (bt mk) n)) S (pop (bt mk) n)) (4 - pop (bt mk) n) i) : 0 < rT (xX n (mP (bt mk) n)) S (pop (bt mk) n) 0 := by
  rcases Nat.eq_zero_or_pos (rT (xX n (mP (bt mk) n)) S (pop (bt mk) n) 0) with w | w
  · exact absurd ((D0_iff hn (by omega) hS).mpr (fun j hj => One_nz h w j (by omega))) h0
  · exact w
theorem Dc_ok {n q k : Nat} {mk : Int32} {S P : Nat → Nat} (hn : n ≤ 32) (hm : pop (bt mk) n ≤ 4) (hS : ∀ j, S j < 256) (h : Dc n q mk S k P) : k ≤ 4 ∧ (∀ t, t < k → P t < n) ∧ (∀ a b, a < k → b < k → a ≠ b → P a ≠ P b) ∧ Solv S (xX n P) k := by
  rcases h with ⟨h1, rfl, rfl⟩ | ⟨h1, h2, h3, i, hi, rfl, rfl⟩ | ⟨h1, h2, h3, h4, h5, h6, rfl, rfl⟩
  · exact ⟨hm, mk_ok.1, mk_ok.2, h1⟩
  · have := ex_ok hi.1 hi.2.1
    exact ⟨by omega, this.1, this.2.2, hi.2.2⟩
  · have hok := fun t (ht : t < 2) => mP_ok (rtB n S) n t (by omega)
    exact ⟨by omega, fun t ht => (hok t ht).1, fun a b ha hb hab => mP_ne (by omega) (by omega) hab, two_sol hn hS h5 hok (mP_ne (by omega) (by omega) (by omega))⟩
theorem Dc_one {n q k k' : Nat} {mk : Int32} {S P P' : Nat → Nat} (hn : n ≤ 32) (hS : ∀ j, S j < 256) (h : Dc n q mk S k P) (h' : Dc n q mk S k' P') : k = k' ∧ P = P' := by
  rcases h with ⟨h1, rfl, rfl⟩ | ⟨h1, h2, h3, i, hi, rfl, rfl⟩ | ⟨h1, h2, h3, h4, h5, h6, rfl, rfl⟩
  · rcases h' with ⟨g1, rfl, rfl⟩ | ⟨g1, _⟩ | ⟨g1, _⟩
    · exact ⟨rfl, rfl⟩
    · exact absurd h1 g1
    · exact absurd h1 g1
  · rcases h' with ⟨g1, _⟩ | ⟨g1, g2, g3, i', hi', rfl, rfl⟩ | ⟨g1, g2, _⟩
    · exact absurd g1 h1
    · have a := (sgl_one hn (by omega) hS).mp hi
      have b := (sgl_one hn (by omega) hS).mp hi'
      have := One_uniq hn a.1 b.1 (rT_lt hS) (by omega) (R0_pos hn h3 hS h1 a.2.2) a.2.2 b.2.2
      rw [this]
      exact ⟨rfl, rfl⟩
    · exact absurd ⟨h2, h3, i, hi⟩ g2
  · rcases h' with ⟨g1, _⟩ | ⟨g1, g2, g3, i', hi', _⟩ | ⟨g1, g2, g3, g4, g5, g6, rfl, rfl⟩
    · exact absurd g1 h1
    · exact absurd ⟨g2, g3, i', hi'⟩ h2
    · exact ⟨rfl, rfl⟩
theorem locate_eq {pwr lg : Nat → Int32} (hT : TabF pwr lg) {n q : Nat} {mk : Int32} {S : Nat → Nat} {spots sums : Nat → Int32} (loc rest : Nat → Int32) (hn : n ≤ 32) (hm : pop (bt mk) n ≤ 4) (hq : q ≤ 2) (hsp : ∀ t, t < pop (bt mk) n → spots t = nI (mP (bt mk) n t)) (hs : ∀ t, t < 4 → sums t = nI (S t)) (hS : ∀ t, S t < 256) :
    (∃ (k : Nat) (P : Nat → Nat) (loc' rest' spots' : Nat → Int32), fX0_locate (nI n) (nI (pop (bt mk) n)) loc rest spots sums lg pwr mk (nI (min q ((4 - pop (bt mk) n) / 2))) = some (1, nI k, loc', rest', spots') ∧ Dc n q mk S k P ∧ ∀ t, t < k → spots' t = nI (P t)) ∨
    (∃ (sp' : Int32) (loc' rest' spots' : Nat → Int32), fX0_locate (nI n) (nI (pop (bt mk) n)) loc rest spots sums lg pwr mk (nI (min q ((4 - pop (bt mk) n) / 2))) = some (0, sp', loc', rest', spots') ∧ ∀ k P, ¬ Dc n q mk S k P) := by
  unfold fX0_locate
  obtain ⟨l1, g1, g2⟩ := spread_eq hT loc hn hm (sk := 9) (x1 := -1) (fun t ht => ⟨hsp t ht, mk_ok.1 t ht⟩) (fun s hs => ⟨fun w => absurd w (nI_m1 (by omega)), fun w => by omega⟩)
  have hpD : pD 9 (pop (bt mk) n) = pop (bt mk) n := (pD_le 9 _).2.2 (by omega)
  rw [hpD] at g1
  rw [g1, ob2E]
  simp only [jkE]
  have hX : ∀ t, xX n (mP (bt mk) n) t < 256 := fun t => gp_lt _
  have hpv : ∀ t, pv (pC (fun t => gp (n - 1 - mP (bt mk) n t)) 9 (pop (bt mk) n)) (pop (bt mk) n) S t = rT (xX n (mP (bt mk) n)) S (pop (bt mk) n) t := fun t => by
    have := pv_tk (X := xX n (mP (bt mk) n)) (S := S) (sk := 9) hX hS (pop (bt mk) n) t
    rw [hpD] at this
    exact this
  obtain ⟨g, rest', r1, r2, r3⟩ := restL (jj := fun x4_4 v_rest_5 => if x4_4 = 0 then (if nI (min q ((4 - pop (bt mk) n) / 2)) < (1 : Int32) then (if nI (min q ((4 - pop (bt mk) n) / 2)) < (2 : Int32) then some (0, nI (pop (bt mk) n), l1, v_rest_5, spots) else ob3 (fX0_locateTwo (nI n) (nI (pop (bt mk) n)) spots sums lg pwr) fun r_12 v_spotted_13 v_spots_14 => if r_12 = 0 then some (0, v_spotted_13, l1, v_rest_5, v_spots_14) else some (1, v_spotted_13, l1, v_rest_5, v_spots_14)) else ob3 (fX0_locateOne (nI n) (nI (pop (bt mk) n)) v_rest_5 spots lg pwr mk ((4 : Int32) - nI (pop (bt mk) n))) fun r_18 v_spotted_19 v_spots_20 => if r_18 = 0 then (if nI (min q ((4 - pop (bt mk) n) / 2)) < (2 : Int32) then some (0, v_spotted_19, l1, v_rest_5, v_spots_20) else ob3 (fX0_locateTwo (nI n) v_spotted_19 v_spots_20 sums lg pwr) fun r_12 v_spotted_13 v_spots_14 => if r_12 = 0 then some (0, v_spotted_13, l1, v_rest_5, v_spots_14) else some (1, v_spotted_13, l1, v_rest_5, v_spots_14)) else some (1, v_spotted_19, l1, v_rest_5, v_spots_20)) else some (1, nI (pop (bt mk) n), l1, v_rest_5, spots)) hT (d := pop (bt mk) n) hm g2 (fun c => pC_lt _ c) hs hS FU 0 rest true (by omega) (by rw [FU_eq]; omega) (fun t ht => by omega)
  simp only [hpv] at r2 r3
  have r1' : fX0_locate_L12 (nI (pop (bt mk) n)) _ l1 sums lg pwr FU 0 1 rest = _ := r1
  rw [r1']
  have hD0 : g = true ↔ D0 n mk S := by
    rw [r3, D0_iff hn hm hS]
    exact ⟨fun w j hj => w.2 j (by omega) (by omega), fun w => ⟨trivial, fun t t1 t2 => w t (by omega)⟩⟩
  cases g with
  | true =>
    rw [if_neg (show ¬ b01 true = (0 : Int32) from by decide)]
    exact Or.inl ⟨_, mP (bt mk) n, l1, rest', spots, rfl, Or.inl ⟨hD0.mp rfl, rfl, rfl⟩, hsp⟩
  | false =>
    have hn0 : ¬ D0 n mk S := fun w => absurd (hD0.mpr w) (by decide)
    rw [if_pos (show b01 false = (0 : Int32) from rfl)]
    -- behind the single place
    have two : ¬ D1 n q mk S → 2 ≤ min q ((4 - pop (bt mk) n) / 2) → _ := fun hn1 hq2 => (show
        (∃ (k : Nat) (P : Nat → Nat) (loc' rest'' spots' : Nat → Int32), (ob3 (fX0_locateTwo (nI n) (nI (pop (bt mk) n)) spots sums lg pwr) fun r_12 v_spotted_13 v_spots_14 => if r_12 = 0 then some ((0 : Int32), v_spotted_13, l1, rest', v_spots_14) else some (1, v_spotted_13, l1, rest', v_spots_14)) = some (1, nI k, loc', rest'', spots') ∧ Dc n q mk S k P ∧ ∀ t, t < k → spots' t = nI (P t)) ∨
        (∃ (sp' : Int32) (loc' rest'' spots' : Nat → Int32), (ob3 (fX0_locateTwo (nI n) (nI (pop (bt mk) n)) spots sums lg pwr) fun r_12 v_spotted_13 v_spots_14 => if r_12 = 0 then some ((0 : Int32), v_spotted_13, l1, rest', v_spots_14) else some (1, v_spotted_13, l1, rest', v_spots_14)) = some (0, sp', loc', rest'', spots') ∧ ∀ k P, ¬ Dc n q mk S k P) from by
      have hm0 : pop (bt mk) n = 0 := by omega
      have none : ¬ (0 < dW S ∧ pop (rtB n S) n = 2) → ∀ k P, ¬ Dc n q mk S k P := fun hz k P hc => by
        rcases hc with ⟨h1, _⟩ | ⟨h1, h2, h3, i, hi, _⟩ | ⟨h1, h2, h3, h4, h5, h6, _⟩
        · exact hn0 h1
        · exact hn1 ⟨h2, h3, i, hi⟩
        · exact hz ⟨h5, h6⟩
      rw [hm0]
      rcases locTwo_eq (spots := spots) hT hn hs hS with ⟨w1, w2⟩ | ⟨w1, sp2, w2, w3⟩
      · have w2' : fX0_locateTwo (nI n) (nI 0) spots sums lg pwr = _ := w2
        rw [w2', ob3E, if_pos rfl]
        exact Or.inr ⟨0, l1, rest', spots, rfl, none (fun z => by omega)⟩
      · have w2' : fX0_locateTwo (nI n) (nI 0) spots sums lg pwr = _ := w2
        rw [w2', ob3E]
        by_cases h2 : pop (rtB n S) n = 2
        · rw [decide_eq_true h2, if_neg (show ¬ b01 true = (0 : Int32) from by decide), h2]
          rw [h2] at w3
          exact Or.inl ⟨2, mP (rtB n S) n, l1, rest', sp2, rfl, Or.inr (Or.inr ⟨hn0, hn1, by omega, hm0, w1, h2, rfl, rfl⟩), fun t ht => w3 t (by omega)⟩
        · rw [decide_eq_false h2, if_pos (show b01 false = (0 : Int32) from rfl)]
          exact Or.inr ⟨_, l1, rest', sp2, rfl, none (fun z => h2 z.2)⟩)
    have low : ¬ D1 n q mk S → ¬ 2 ≤ min q ((4 - pop (bt mk) n) / 2) → ∀ k P, ¬ Dc n q mk S k P := fun hn1 hq2 k P hc => by
      rcases hc with ⟨h1, _⟩ | ⟨h1, h2, h3, i, hi, _⟩ | ⟨h1, h2, h3, h4, h5, h6, _⟩
      · exact hn0 h1
      · exact hn1 ⟨h2, h3, i, hi⟩
      · rw [h4] at hq2; omega
    by_cases hq1 : 1 ≤ min q ((4 - pop (bt mk) n) / 2)
    · rw [if_neg (show ¬ nI (min q ((4 - pop (bt mk) n) / 2)) < (1 : Int32) from nI_nlt (b := 1) hq1 (by omega)), show (4 : Int32) - nI (pop (bt mk) n) = nI (4 - pop (bt mk) n) from pk_sub (a := 4) hm]
      have hm2 : pop (bt mk) n ≤ 2 := by omega
      rcases locOne_eq (spots := spots) (marks := mk) hT hn hm2 r2 (rT_lt hS) with ⟨i, i1, i2, i3, i4, i5⟩ | ⟨w1, w2⟩
      · rw [i5, ob3E, if_neg ne10]
        refine Or.inl ⟨_, exP (mP (bt mk) n) (pop (bt mk) n) i, l1, rest', _, rfl, Or.inr (Or.inl ⟨hn0, by omega, hm2, i, (sgl_one hn (by omega) hS).mpr ⟨i1, i2, i4⟩, rfl, rfl⟩), fun t ht => ?_⟩
        unfold exP
        by_cases w : t = pop (bt mk) n
        · rw [if_pos w, w, pk_us]
        · rw [if_neg w, pk_un w]; exact hsp t (by omega)
      · have hn1 : ¬ D1 n q mk S := fun ⟨a1, a2, i, hi⟩ => by
          have ho := (sgl_one hn (by omega) hS).mp hi
          rcases w2 with w2 | w2
          · have := R0_pos hn hm2 hS hn0 ho.2.2; omega
          · exact w2 i ho.1 ho.2.1 ho.2.2
        rw [w1, ob3E, if_pos rfl]
        by_cases hq2 : 2 ≤ min q ((4 - pop (bt mk) n) / 2)
        · rw [if_neg (show ¬ nI (min q ((4 - pop (bt mk) n) / 2)) < (2 : Int32) from nI_nlt (b := 2) hq2 (by omega))]
          exact two hn1 hq2
        · rw [if_pos (show nI (min q ((4 - pop (bt mk) n) / 2)) < (2 : Int32) from nI_lt (b := 2) (by omega) (by omega))]
          exact Or.inr ⟨_, l1, rest', spots, rfl, low hn1 hq2⟩
    · rw [if_pos (show nI (min q ((4 - pop (bt mk) n) / 2)) < (1 : Int32) from nI_lt (b := 1) (by omega) (by omega)), if_pos (show nI (min q ((4 - pop (bt mk) n) / 2)) < (2 : Int32) from nI_lt (b := 2) (by omega) (by omega))]
      exact Or.inr ⟨_, l1, rest', spots, rfl, low (fun ⟨a1, a2, i, hi⟩ => by omega) (by omega)⟩
