/-! ===== press: the label of a section ===== -/
def fg (n : Nat) : Nat := 16 * (n / 10) + n % 10
theorem figC : ∀ n, n < 100 → fX4_figures (nI n) = nI (fg n) := by decide +kernel
theorem fgb : ∀ n, n < 100 → ∀ k, k < 8 → (fg n).testBit (7 - k) = (if k < 4 then (n / 10).testBit (3 - k % 4) else (n % 10).testBit (3 - k % 4)) := by decide +kernel
theorem sb1 (x : Int32) (s : Nat) (hs : s < 32) : (x >>> (nI s &&& 31)) &&& (1 : Int32) = b01 (bt x s) := b_ext (fun i hi => by
  rw [b_and, b_sshr s hs x hi, b_one i hi, b_b01]
  by_cases q : i = 0
  · rw [q, if_pos (by omega), Nat.add_zero]
  · rw [decide_eq_false q, Bool.and_false, Bool.and_false])
theorem sbN {v s : Nat} (hs : s < 32) : (nI v >>> (nI s &&& 31)) &&& (1 : Int32) = b01 (v.testBit s) := by
  rw [sb1 _ s hs, bt_nI, decide_eq_true hs]; rfl
def HO (ch : Nat → Int32) (a v : Nat) : Prop := ∀ k, k < 8 → ch (a + k) = b01 (v.testBit (7 - k))
theorem figL {a n : Nat} (ha : a + 8 ≤ 96) (hn : n < 100) : ∀ (F k : Nat) (ch : Nat → Int32), k ≤ 8 → 8 - k < F → (∀ t, t < k → ch (a + t) = b01 ((fg n).testBit (7 - t))) → ∃ ch', fX10_figures_L2 (nI a) (nI n) F (nI k) ch = some (nI (a + 8), ch') ∧ HO ch' a (fg n) ∧ ∀ t, (t < a ∨ a + 8 ≤ t) → ch' t = ch t := by
  intro F
  induction F with
  | zero => intro k ch _ h; omega
  | succ F ih =>
    intro k ch hk hF h
    rw [fX10_figures_L2.eq_2]
    by_cases hc : 8 ≤ k
    · rw [if_pos (show (8 : Int32) ≤ nI k from nI_le (a := 8) hc (by omega)), show nI a + (8 : Int32) = nI (a + 8) from nI_add a 8]
      exact ⟨ch, rfl, fun t ht => h t (by omega), fun _ _ => rfl⟩
    · rw [if_neg (show ¬ (8 : Int32) ≤ nI k from nI_ge (b := 8) (by omega) (by omega))]
      simp only [jkE, nmE]
      rw [nI_add, og_nI (by omega) (by omega), og_nI (by omega) (by omega), nI_clamp (by omega), show nI k / (4 : Int32) = nI (k / 4) from pk_div (d := 4) (by omega) (by omega) (by omega), show nI (k / 4) * (4 : Int32) = nI (k / 4 * 4) from pk_mul _ 4, pk_sub (show k / 4 * 4 ≤ k from by omega), show k - k / 4 * 4 = k % 4 from by omega, show (3 : Int32) - nI (k % 4) = nI (3 - k % 4) from pk_sub (a := 3) (by omega), show nI n / (10 : Int32) = nI (n / 10) from pk_div (d := 10) (by omega) (by omega) (by omega), show nI (n / 10) * (10 : Int32) = nI (n / 10 * 10) from pk_mul _ 10, pk_sub (show n / 10 * 10 ≤ n from by omega), show n - n / 10 * 10 = n % 10 from by omega, sbN (by omega), sbN (by omega), nI_1]
      have go : ∀ y : Bool, y = (fg n).testBit (7 - k) → ∃ ch', fX10_figures_L2 (nI a) (nI n) F (nI (k + 1)) (upd ch (a + k) (b01 y)) = some (nI (a + 8), ch') ∧ HO ch' a (fg n) ∧ ∀ t, (t < a ∨ a + 8 ≤ t) → ch' t = ch t := fun y hy => by
        obtain ⟨ch', g1, g2, g3⟩ := ih (k + 1) (upd ch (a + k) (b01 y)) (by omega) (by omega) (fun t ht => by
          by_cases z : t = k
          · rw [z, pk_us, hy]
          · rw [pk_un (by omega)]; exact h t (by omega))
        exact ⟨ch', g1, g2, fun t ht => by rw [g3 t ht, pk_un (by omega)]⟩
      have hb := fgb n hn k (by omega)
      by_cases h4 : 4 ≤ k
      · rw [if_neg (by omega)] at hb
        rw [if_pos (show (4 : Int32) ≤ nI k from nI_le (a := 4) h4 (by omega))]
        exact go _ hb.symm
      · rw [if_pos (by omega)] at hb
        rw [if_neg (show ¬ (4 : Int32) ≤ nI k from nI_ge (b := 4) (by omega) (by omega))]
        exact go _ hb.symm
theorem figR {a n : Nat} (ha : a + 8 ≤ 96) (hn : n < 100) (ch : Nat → Int32) : ∃ ch', fX10_figures ch (nI a) (nI n) = some (nI (a + 8), ch') ∧ HO ch' a (fg n) ∧ ∀ t, (t < a ∨ a + 8 ≤ t) → ch' t = ch t :=
  figL ha hn FU 0 ch (by omega) (by rw [FU_eq]; omega) (fun t ht => by omega)
theorem HO_fr {ch ch' : Nat → Int32} {a v : Nat} (h : HO ch a v) (hf : ∀ k, k < 8 → ch' (a + k) = ch (a + k)) : HO ch' a v := fun k hk => by rw [hf k hk]; exact h k hk
theorem tdiv {p : Nat} (hp : p < 450000) : nI p / (4500 : Int32) = nI (p / 4500) ∧ nI p / (75 : Int32) - nI p / (75 : Int32) / (60 : Int32) * (60 : Int32) = nI (p / 75 % 60) ∧ nI p - nI p / (75 : Int32) * (75 : Int32) = nI (p % 75) := by
  rw [show nI p / (4500 : Int32) = nI (p / 4500) from pk_div (d := 4500) (by omega) (by omega) (by omega), show nI p / (75 : Int32) = nI (p / 75) from pk_div (d := 75) (by omega) (by omega) (by omega), show nI (p / 75) / (60 : Int32) = nI (p / 75 / 60) from pk_div (d := 60) (by omega) (by omega) (by omega), show nI (p / 75 / 60) * (60 : Int32) = nI (p / 75 / 60 * 60) from pk_mul _ 60, show nI (p / 75) * (75 : Int32) = nI (p / 75 * 75) from pk_mul _ 75, pk_sub (by omega), pk_sub (by omega)]
  exact ⟨rfl, congrArg nI (by omega), congrArg nI (by omega)⟩
theorem clkR {a p : Nat} (ha : a + 24 ≤ 96) (hp : p < 450000) (ch : Nat → Int32) : ∃ ch', fX10_clock ch (nI a) (nI p) = some (nI (a + 24), ch') ∧ HO ch' a (fg (p / 4500)) ∧ HO ch' (a + 8) (fg (p / 75 % 60)) ∧ HO ch' (a + 16) (fg (p % 75)) ∧ ∀ t, (t < a ∨ a + 24 ≤ t) → ch' t = ch t := by
  obtain ⟨d1, d2, d3⟩ := tdiv hp
  obtain ⟨c1, a1, a2, a3⟩ := figR (a := a) (n := p / 4500) (by omega) (by omega) ch
  obtain ⟨c2, b1, b2, b3⟩ := figR (a := a + 8) (n := p / 75 % 60) (by omega) (by omega) c1
  obtain ⟨c3, e1, e2, e3⟩ := figR (a := a + 8 + 8) (n := p % 75) (by omega) (by omega) c2
  unfold fX10_clock
  rw [d1, d2, d3, a1, ob2E, b1, ob2E, e1, ob2E]
  refine ⟨c3, rfl, ?_, ?_, e2, fun t ht => ?_⟩
  · exact HO_fr (HO_fr a2 (fun k hk => b3 _ (by omega))) (fun k hk => e3 _ (by omega))
  · exact HO_fr b2 (fun k hk => e3 _ (by omega))
  · rw [e3 _ (by omega), b3 _ (by omega), a3 _ (by omega)]
def octs (C T I t p : Nat) (j : Nat) : Nat := [16 * C + 1, fg T, fg I, fg (t / 4500), fg (t / 75 % 60), fg (t % 75), fg 0, fg (p / 4500), fg (p / 75 % 60), fg (p % 75)].getD j 0
def Z80 (O : Nat → Nat) (k : Nat) : Bool := (O (k / 8)).testBit (7 - k % 8)
def ZL (O : Nat → Nat) (k : Nat) : Bool := if k < 80 then Z80 O k else ((crc (Z80 O) 80) ^^^ 65535).testBit (95 - k)
theorem bitO (o : Nat → Int32) {k : Nat} (hk : k < 96) : fX4_bitOf o (nI k) = some (b01 (bt (o (k / 8)) (7 - k % 8))) := by
  unfold fX4_bitOf
  rw [if_neg (nI_pos (by omega)), if_neg (show ¬ (96 : Int32) ≤ nI k from nI_ge (b := 96) (by omega) (by omega)), shr3 (by omega), and7 (by omega), og_nI (by omega) (by omega), nI_clamp (by omega), show (7 : Int32) - nI (k % 8) = nI (7 - k % 8) from pk_sub (a := 7) (by omega), bt_tst _ _ (by omega)]
theorem rest80 {o : Nat → Int32} {Z : Nat → Bool} (ho : ∀ k, k < 80 → bt (o (k / 8)) (7 - k % 8) = Z k) : ∀ (F k : Nat), k ≤ 80 → 80 - k < F → fX4_restOf80_L4 o F (nI k) (nI (crc Z k)) = some (nI (crc Z 80)) := by
  intro F
  induction F with
  | zero => intro k _ h; omega
  | succ F ih =>
    intro k hk hF
    rw [fX4_restOf80_L4.eq_2]
    by_cases h1 : 80 ≤ k
    · rw [if_pos (show (80 : Int32) ≤ nI k from nI_le (a := 80) h1 (by omega)), show k = 80 from by omega]
    · have hbit : fX4_bitOf o (nI k) = some (b01 (Z k)) := by rw [bitO o (by omega), ho k (by omega)]
      have hc := crc_lt Z k
      rw [if_neg (show ¬ (80 : Int32) ≤ nI k from nI_ge (b := 80) (by omega) (by omega)), hbit, ob1E]
      simp only [jkE, nmE]
      rw [show ((nI (crc Z k)).toUInt32 >>> (Int32.toUInt32 15 &&& Int32.toUInt32 31)).toInt32 = nI (crc Z k / 2 ^ 15) from nx_ush2 (j := 15) (by omega) (by omega), shl1 (by omega), nx_mod, show (4129 : Int32) = nI 4129 from rfl, nx_xor, nI_1, b01_n, nx_xor]
      have hih := ih (k + 1) (by omega) (by omega)
      rw [show crc Z (k + 1) = cs (crc Z k) (Z k) from rfl] at hih
      unfold cs at hih
      have hq : crc Z k / 2 ^ 15 = crc Z k / 32768 := rfl
      rw [hq]
      have h01 : crc Z k / 32768 = 0 ∨ crc Z k / 32768 = 1 := by omega
      generalize crc Z k = c at *
      rcases h01 with h0 | h0
      · rw [h0] at hih ⊢
        generalize Z k = z at *
        cases z
        · rw [if_neg (by decide)]; exact hih
        · rw [if_pos (by decide)]; exact hih
      · rw [h0] at hih ⊢
        generalize Z k = z at *
        cases z
        · rw [if_pos (by decide)]; exact hih
        · rw [if_neg (by decide)]; exact hih
theorem wrT (o : Nat → Int32) {a p : Nat} (ha : a + 3 ≤ 12) (hp : p < 450000) : fX4_writeTime o (nI a) (nI p) = some (upd (upd (upd o a (nI (fg (p / 4500)))) (a + 1) (nI (fg (p / 75 % 60)))) (a + 2) (nI (fg (p % 75)))) := by
  obtain ⟨d1, d2, d3⟩ := tdiv hp
  unfold fX4_writeTime
  rw [d1, d2, d3, figC _ (by omega), figC _ (by omega), figC _ (by omega), show nI a + (1 : Int32) = nI (a + 1) from nI_1 a, show nI a + (2 : Int32) = nI (a + 2) from nI_add a 2, nt1E, og_nI (by omega) (by omega), nmE, nt1E, og_nI (by omega) (by omega), nmE, nt1E, og_nI (by omega) (by omega), nmE, nI_clamp (by omega), nI_clamp (by omega), nI_clamp (by omega)]
theorem c41 : ∀ C, C < 16 → (nI C <<< ((4 : Int32) &&& 31)) ||| (1 : Int32) = nI (16 * C + 1) := by decide +kernel
theorem tb16 : ∀ s, s < 16 → (65535 : Nat).testBit s = true := by decide
theorem wrE (o : Nat → Int32) {C T I t p : Nat} (hC : C < 16) (hT : T < 100) (hI : I < 100) (ht : t < 450000) (hp : p < 450000) : ∃ o', fX4_write o (nI C) (nI T) (nI I) (nI t) (nI p) = some o' ∧ ∀ k, k < 96 → bt (o' (k / 8)) (7 - k % 8) = ZL (octs C T I t p) k := by
  unfold fX4_write
  have w1 := wrT (upd (upd (upd o 0 (nI (16 * C + 1))) 1 (nI (fg T))) 2 (nI (fg I))) (a := 3) (p := t) (by omega) ht
  have w1' : fX4_writeTime (upd (upd (upd o 0 (nI (16 * C + 1))) 1 (nI (fg T))) 2 (nI (fg I))) 3 (nI t) = _ := w1
  rw [og_t (show ixb 0 12 = true from rfl), nmE, figC _ hT, nt1E, og_t (show ixb 1 12 = true from rfl), nmE, figC _ hI, nt1E, og_t (show ixb 2 12 = true from rfl), nmE, c41 C hC, show (0 : Int32).toNatClampNeg = 0 from rfl, show (1 : Int32).toNatClampNeg = 1 from rfl, show (2 : Int32).toNatClampNeg = 2 from rfl, w1', ob1E, og_t (show ixb 6 12 = true from rfl), nmE, show (6 : Int32).toNatClampNeg = 6 from rfl]
  generalize hB : upd (upd (upd (upd (upd (upd (upd o 0 (nI (16 * C + 1))) 1 (nI (fg T))) 2 (nI (fg I))) 3 (nI (fg (t / 4500)))) (3 + 1) (nI (fg (t / 75 % 60)))) (3 + 2) (nI (fg (t % 75)))) 6 0 = oB
  have w2 := wrT oB (a := 7) (p := p) (by omega) hp
  have w2' : fX4_writeTime oB 7 (nI p) = _ := w2
  rw [w2', ob1E]
  generalize hD : upd (upd (upd oB 7 (nI (fg (p / 4500)))) (7 + 1) (nI (fg (p / 75 % 60)))) (7 + 2) (nI (fg (p % 75))) = oD
  have hO : ∀ j, j < 10 → oD j = nI (octs C T I t p j) := fun j hj => by
    have hj' : j = 0 ∨ j = 1 ∨ j = 2 ∨ j = 3 ∨ j = 4 ∨ j = 5 ∨ j = 6 ∨ j = 7 ∨ j = 8 ∨ j = 9 := by omega
    rw [← hD, ← hB]
    rcases hj' with rfl | rfl | rfl | rfl | rfl | rfl | rfl | rfl | rfl | rfl <;> rfl
  have h80 : ∀ k, k < 80 → bt (oD (k / 8)) (7 - k % 8) = Z80 (octs C T I t p) k := fun k hk => by
    rw [hO _ (by omega), bt_nI, decide_eq_true (by omega)]; rfl
  have hr : fX4_restOf80 oD = some (nI (crc (Z80 (octs C T I t p)) 80)) := rest80 h80 FU 0 (by omega) (by rw [FU_eq]; omega)
  have hcl := crc_lt (Z80 (octs C T I t p)) 80
  rw [hr, ob1E, nmE, og_t (show ixb 10 12 = true from rfl), nmE, og_t (show ixb 11 12 = true from rfl), nmE, show (10 : Int32).toNatClampNeg = 10 from rfl, show (11 : Int32).toNatClampNeg = 11 from rfl]
  refine ⟨_, rfl, fun k hk => ?_⟩
  unfold ZL
  by_cases q : k < 80
  · rw [if_pos q, pk_un (by omega), pk_un (by omega)]; exact h80 k q
  · rw [if_neg q, Nat.testBit_xor, tb16 _ (by omega)]
    by_cases q2 : k < 88
    · rw [pk_un (by omega), show k / 8 = 10 from by omega, pk_us, b_and, b_255, decide_eq_true (by omega), Bool.and_true, show Int32.toUInt32 8 = (nI 8).toUInt32 from rfl, b_ushr 8 (by omega), b_xor, b_m1 _ (by omega), bt_nI, decide_eq_true (by omega), show 8 + (7 - k % 8) = 95 - k from by omega]; rfl
    · rw [show k / 8 = 11 from by omega, pk_us, b_and, b_255, decide_eq_true (by omega), Bool.and_true, b_xor, b_m1 _ (by omega), bt_nI, decide_eq_true (by omega), show 7 - k % 8 = 95 - k from by omega]; rfl
def mcRest (v_begins : Int32) (v_entries : Int32) (v_pressed : Int32) (v_entryIndex : Nat → Int32) (v_entrySection : Nat → Int32) (v_entryTrack : Nat → Int32) (x1 : Int32) (v_channel_5 : Nat → Int32) : Option (Nat → Int32) := ob1 (fX10_trackOf v_entries v_entrySection v_entryTrack x1) fun r_7 => ob2 (fX10_figures v_channel_5 8 r_7) fun r_9 v_channel_10 => ob1 (fX10_indexOf v_entries v_entryIndex v_entrySection x1) fun r_12 => ob2 (fX10_figures v_channel_10 r_9 r_12) fun r_14 v_channel_15 => ob1 (fX10_timeOf v_entries v_pressed v_entryIndex v_entrySection v_entryTrack x1) fun r_17 => ob2 (fX10_clock v_channel_15 r_14 r_17) fun r_19 v_channel_20 => ob2 (fX10_figures v_channel_20 r_19 0) fun r_22 v_channel_23 => ob2 (fX10_clock v_channel_23 r_22 (x1 + v_begins)) fun r_25 v_channel_26 => jk (fun (x4_28 : Int32) => fX10_makeChannel_L158 x4_28 FU 0 v_channel_26) fun j155_29 => fX10_makeChannel_L128 j155_29 v_channel_26 FU 0 0
theorem mcE (v_begins : Int32) (v_entries : Int32) (v_pressed : Int32) (v_channel : Nat → Int32) (v_entryControl : Nat → Int32) (v_entryIndex : Nat → Int32) (v_entrySection : Nat → Int32) (v_entryTrack : Nat → Int32) (x1 : Int32) : fX10_makeChannel v_begins v_entries v_pressed v_channel v_entryControl v_entryIndex v_entrySection v_entryTrack x1 = ob1 (fX10_entryFor v_entries v_entrySection x1) fun r_1 => if 0 ≤ r_1 then ob1 (fX10_entryFor v_entries v_entrySection x1) fun r_57 => og (ixb r_57 20) (fX10_makeChannel_L25 (mcRest v_begins v_entries v_pressed v_entryIndex v_entrySection v_entryTrack x1) (v_entryControl (Int32.toNatClampNeg r_57)) FU 0 v_channel) else fX10_makeChannel_L25 (mcRest v_begins v_entries v_pressed v_entryIndex v_entrySection v_entryTrack x1) 0 FU 0 v_channel := by
  unfold fX10_makeChannel mcRest
  simp only [jkE]
theorem cb8 : ∀ C, C < 16 → ∀ k, k < 8 → (16 * C + 1).testBit (7 - k) = (if k < 4 then C.testBit (3 - k) else decide (k = 7)) := by decide +kernel
theorem mc25 {jj : (Nat → Int32) → Option (Nat → Int32)} {C : Nat} (hC : C < 16) : ∀ (F k : Nat) (ch : Nat → Int32), k ≤ 8 → 8 - k < F → (∀ t, t < k → ch (0 + t) = b01 ((16 * C + 1).testBit (7 - t))) → ∃ ch', fX10_makeChannel_L25 jj (nI C) F (nI k) ch = jj ch' ∧ HO ch' 0 (16 * C + 1) := by
  intro F
  induction F with
  | zero => intro k ch _ h; omega
  | succ F ih =>
    intro k ch hk hF h
    rw [fX10_makeChannel_L25.eq_2]
    by_cases hc : 8 ≤ k
    · rw [if_pos (show (8 : Int32) ≤ nI k from nI_le (a := 8) hc (by omega))]
      exact ⟨ch, rfl, fun t ht => h t (by omega)⟩
    · rw [if_neg (show ¬ (8 : Int32) ≤ nI k from nI_ge (b := 8) (by omega) (by omega))]
      simp only [jkE, nmE]
      rw [og_nI (by omega) (by omega), og_nI (by omega) (by omega), og_nI (by omega) (by omega), nI_clamp (by omega), nI_1]
      have go : ∀ y : Bool, y = (16 * C + 1).testBit (7 - k) → ∃ ch', fX10_makeChannel_L25 jj (nI C) F (nI (k + 1)) (upd ch k (b01 y)) = jj ch' ∧ HO ch' 0 (16 * C + 1) := fun y hy => ih (k + 1) _ (by omega) (by omega) (fun t ht => by
          by_cases z : t = k
          · rw [z, Nat.zero_add, pk_us, hy]
          · rw [pk_un (by omega)]; exact h t (by omega))
      have hb := cb8 C hC k (by omega)
      by_cases h4 : 4 ≤ k
      · rw [if_neg (by omega)] at hb
        rw [if_pos (show (4 : Int32) ≤ nI k from nI_le (a := 4) h4 (by omega))]
        by_cases h7 : k = 7
        · rw [decide_eq_true h7] at hb
          rw [if_pos (show nI k = (7 : Int32) from congrArg nI h7)]
          exact go true hb.symm
        · rw [decide_eq_false h7] at hb
          rw [if_neg (show ¬ nI k = (7 : Int32) from fun z => h7 ((nI_eq (b := 7) (by omega) (by omega)).mp z))]
          exact go false hb.symm
      · rw [if_pos (by omega)] at hb
        rw [if_neg (show ¬ (4 : Int32) ≤ nI k from nI_ge (b := 4) (by omega) (by omega)), show (3 : Int32) - nI k = nI (3 - k) from pk_sub (a := 3) (by omega), sbN (by omega)]
        exact go _ hb.symm
theorem mc128 {jj : Int32 → Option (Nat → Int32)} {ch : Nat → Int32} {Z : Nat → Bool} (hc : ∀ t, t < 80 → ch t = b01 (Z t)) : ∀ (F k : Nat), k ≤ 80 → 80 - k < F → fX10_makeChannel_L128 jj ch F (nI k) (nI (crc Z k)) = jj (nI (crc Z 80)) := by
  intro F
  induction F with
  | zero => intro k _ h; omega
  | succ F ih =>
    intro k hk hF
    rw [fX10_makeChannel_L128.eq_2]
    by_cases h1 : 80 ≤ k
    · rw [if_pos (show (80 : Int32) ≤ nI k from nI_le (a := 80) h1 (by omega)), show k = 80 from by omega]
    · rw [if_neg (show ¬ (80 : Int32) ≤ nI k from nI_ge (b := 80) (by omega) (by omega)), og_nI (by omega) (by omega), nI_clamp (by omega), hc k (by omega), nt1E, nmE, step_R (crc_lt Z k), nI_1]
      exact ih (k + 1) (by omega) (by omega)
theorem b01x (z : Bool) : b01 z ^^^ (1 : Int32) = b01 (z ^^ true) := by cases z <;> rfl
theorem mc158 {c : Nat} : ∀ (F k : Nat) (ch : Nat → Int32), k ≤ 16 → 16 - k < F → (∀ t, t < k → ch (80 + t) = b01 ((c ^^^ 65535).testBit (15 - t))) → ∃ ch', fX10_makeChannel_L158 (nI c) F (nI k) ch = some ch' ∧ (∀ t, t < 16 → ch' (80 + t) = b01 ((c ^^^ 65535).testBit (15 - t))) ∧ ∀ t, t < 80 → ch' t = ch t := by
  intro F
  induction F with
  | zero => intro k ch _ h; omega
  | succ F ih =>
    intro k ch hk hF h
    rw [fX10_makeChannel_L158.eq_2]
    by_cases hc : 16 ≤ k
    · rw [if_pos (show (16 : Int32) ≤ nI k from nI_le (a := 16) hc (by omega))]
      exact ⟨ch, rfl, fun t ht => h t (by omega), fun _ _ => rfl⟩
    · rw [if_neg (show ¬ (16 : Int32) ≤ nI k from nI_ge (b := 16) (by omega) (by omega)), show (80 : Int32) + nI k = nI (80 + k) from nI_add 80 k, og_nI (by omega) (by omega), nmE, nmE, nI_clamp (by omega), show (15 : Int32) - nI k = nI (15 - k) from pk_sub (a := 15) (by omega), sbN (by omega), b01x, nI_1]
      obtain ⟨ch', g1, g2, g3⟩ := ih (k + 1) (upd ch (80 + k) (b01 (c.testBit (15 - k) ^^ true))) (by omega) (by omega) (fun t ht => by
          by_cases z : t = k
          · rw [z, pk_us, Nat.testBit_xor, tb16 _ (by omega)]
          · rw [pk_un (by omega)]; exact h t (by omega))
      exact ⟨ch', g1, g2, fun t ht => by rw [g3 t ht, pk_un (by omega)]⟩
theorem ctlC {r : Int32} {mct : Nat → Int32} {C : Nat} (h : ∀ (β : Type) (j : Int32 → Option β), (if 0 ≤ r then og (ixb r 20) (j (mct (Int32.toNatClampNeg r))) else j 0) = j (nI C)) : (0 ≤ r ∧ ixb r 20 = true ∧ mct (Int32.toNatClampNeg r) = nI C) ∨ (¬ 0 ≤ r ∧ nI C = 0) := by
  have h1 := h Int32 some
  by_cases q : 0 ≤ r
  · rw [if_pos q] at h1
    cases hb : ixb r 20 with
    | false => rw [hb] at h1; exact absurd h1 (by intro z; cases z)
    | true =>
      rw [hb, og_t rfl] at h1
      exact Or.inl ⟨q, rfl, Option.some.inj h1⟩
  · rw [if_neg q] at h1
    exact Or.inr ⟨q, (Option.some.inj h1).symm⟩
theorem labE {ents me : Int32} {sc ct tr ix msc mct mtr mix : Nat → Int32} {r : Nat → Int32} {T I C : Nat → Nat} (hc : ConF ents sc ct tr ix me msc mct mtr mix r T I C) {x S p b : Nat} (hS : S = (p + 97) / 98) (hp : p ≤ 599) (hx : x < S) (hb : b ≤ 400000) (o ch : Nat → Int32) : ∃ (o' ch' : Nat → Int32) (Z : Nat → Bool), fX1_describe ents (nI b) ct ix sc tr o (nI x) (nI S) = some o' ∧ fX10_makeChannel (nI b) me (nI p) ch mct mix msc mtr (nI x) = some ch' ∧ (∀ k, k < 96 → bt (o' (k / 8)) (7 - k % 8) = Z k) ∧ ∀ k, k < 96 → ch' k = b01 (Z k) := by
  obtain ⟨⟨t1, t2⟩, i1, c1, a1, a2, a3, a4, a5, a6, a7, a8⟩ := hc x
  obtain ⟨t, ht, e1, e2⟩ := timE hc hS hp hx
  obtain ⟨o', w1, w2⟩ := wrE o (C := C x) (T := T x) (I := I x) (t := t) (p := b + x) (by omega) (by omega) (by omega) (by omega) (by omega)
  have hd : fX1_describe ents (nI b) ct ix sc tr o (nI x) (nI S) = some o' := by
    unfold fX1_describe
    rw [a1, ob1E, a2, ob1E, a3, ob1E, a4, ob1E, e1, ob1E, nI_add, w1, ob1E]
  have body : ∃ ch', fX10_makeChannel_L25 (mcRest (nI b) me (nI p) mix msc mtr (nI x)) (nI (C x)) FU 0 ch = some ch' ∧ ∀ k, k < 96 → ch' k = b01 (ZL (octs (C x) (T x) (I x) t (b + x)) k) := by
    obtain ⟨h1, g1, g2⟩ := mc25 (jj := mcRest (nI b) me (nI p) mix msc mtr (nI x)) (C := C x) (by omega) FU 0 ch (by omega) (by rw [FU_eq]; omega) (fun t ht => by omega)
    have g1' : fX10_makeChannel_L25 (mcRest (nI b) me (nI p) mix msc mtr (nI x)) (nI (C x)) FU 0 ch = _ := g1
    rw [g1']
    obtain ⟨h2, k1, k2, k3⟩ := figR (a := 8) (n := T x) (by omega) (by omega) h1
    obtain ⟨h3, l1, l2, l3⟩ := figR (a := 8 + 8) (n := I x) (by omega) (by omega) h2
    obtain ⟨h4, m1, m2, m3, m4, m5⟩ := clkR (a := 8 + 8 + 8) (p := t) (by omega) (by omega) h3
    obtain ⟨h5, n1, n2, n3⟩ := figR (a := 8 + 8 + 8 + 24) (n := 0) (by omega) (by omega) h4
    obtain ⟨h6, p1, p2, p3, p4, p5⟩ := clkR (a := 8 + 8 + 8 + 24 + 8) (p := b + x) (by omega) (by omega) h5
    have k1' : fX10_figures h1 8 (nI (T x)) = _ := k1
    have n1' : fX10_figures h4 (nI (8 + 8 + 8 + 24)) 0 = _ := n1
    have hZ : ∀ k, k < 80 → h6 k = b01 (Z80 (octs (C x) (T x) (I x) t (b + x)) k) := fun k hk => by
      have q0 : HO h6 0 (16 * C x + 1) := HO_fr (HO_fr (HO_fr (HO_fr (HO_fr g2 (fun k hk => k3 _ (by omega))) (fun k hk => l3 _ (by omega))) (fun k hk => m5 _ (by omega))) (fun k hk => n3 _ (by omega))) (fun k hk => p5 _ (by omega))
      have q1 : HO h6 8 (fg (T x)) := HO_fr (HO_fr (HO_fr (HO_fr k2 (fun k hk => l3 _ (by omega))) (fun k hk => m5 _ (by omega))) (fun k hk => n3 _ (by omega))) (fun k hk => p5 _ (by omega))
      have q2 : HO h6 16 (fg (I x)) := HO_fr (HO_fr (HO_fr l2 (fun k hk => m5 _ (by omega))) (fun k hk => n3 _ (by omega))) (fun k hk => p5 _ (by omega))
      have q3 : HO h6 24 (fg (t / 4500)) := HO_fr (HO_fr m2 (fun k hk => n3 _ (by omega))) (fun k hk => p5 _ (by omega))
      have q4 : HO h6 32 (fg (t / 75 % 60)) := HO_fr (HO_fr m3 (fun k hk => n3 _ (by omega))) (fun k hk => p5 _ (by omega))
      have q5 : HO h6 40 (fg (t % 75)) := HO_fr (HO_fr m4 (fun k hk => n3 _ (by omega))) (fun k hk => p5 _ (by omega))
      have q6 : HO h6 48 (fg 0) := HO_fr n2 (fun k hk => p5 _ (by omega))
      have key : ∀ a j v, HO h6 a v → k / 8 = j → a = 8 * j → v = octs (C x) (T x) (I x) t (b + x) j → h6 k = b01 (Z80 (octs (C x) (T x) (I x) t (b + x)) k) := fun a j v hh hj ha hv => by
        have := hh (k % 8) (by omega)
        rw [show a + k % 8 = k from by omega] at this
        rw [this]
        unfold Z80
        rw [hj, ← hv]
      have hj' : k / 8 = 0 ∨ k / 8 = 1 ∨ k / 8 = 2 ∨ k / 8 = 3 ∨ k / 8 = 4 ∨ k / 8 = 5 ∨ k / 8 = 6 ∨ k / 8 = 7 ∨ k / 8 = 8 ∨ k / 8 = 9 := by omega
      rcases hj' with h | h | h | h | h | h | h | h | h | h
      · exact key 0 0 _ q0 h (by omega) rfl
      · exact key 8 1 _ q1 h (by omega) rfl
      · exact key 16 2 _ q2 h (by omega) rfl
      · exact key 24 3 _ q3 h (by omega) rfl
      · exact key 32 4 _ q4 h (by omega) rfl
      · exact key 40 5 _ q5 h (by omega) rfl
      · exact key 48 6 _ q6 h (by omega) rfl
      · exact key 56 7 _ p2 h (by omega) rfl
      · exact key 64 8 _ p3 h (by omega) rfl
      · exact key 72 9 _ p4 h (by omega) rfl
    obtain ⟨h7, r1, r2, r3⟩ := mc158 (c := crc (Z80 (octs (C x) (T x) (I x) t (b + x))) 80) FU 0 h6 (by omega) (by rw [FU_eq]; omega) (fun t ht => by omega)
    have r1' : fX10_makeChannel_L158 (nI (crc (Z80 (octs (C x) (T x) (I x) t (b + x))) 80)) FU 0 h6 = _ := r1
    have s1 := fun jj => mc128 (jj := jj) hZ FU 0 (by omega) (by rw [FU_eq]; omega)
    have s1' : ∀ jj, fX10_makeChannel_L128 jj h6 FU 0 0 = _ := s1
    unfold mcRest
    rw [a6, ob1E, k1', ob2E, a7, ob1E, l1, ob2E, e2, ob1E, m1, ob2E, n1', ob2E, nI_add, Nat.add_comm x b, p1, ob2E, jkE, s1', r1']
    refine ⟨h7, rfl, fun k hk => ?_⟩
    unfold ZL
    by_cases q : k < 80
    · rw [if_pos q, r3 k q]; exact hZ k q
    · rw [if_neg q]
      have := r2 (k - 80) (by omega)
      rw [show 80 + (k - 80) = k from by omega, show 15 - (k - 80) = 95 - k from by omega] at this
      exact this
  obtain ⟨ch', b1, b2⟩ := body
  refine ⟨o', ch', ZL (octs (C x) (T x) (I x) t (b + x)), hd, ?_, w2, b2⟩
  rw [mcE, a5, ob1E]
  rcases ctlC a8 with ⟨z1, z2, z3⟩ | ⟨z1, z2⟩
  · rw [if_pos z1, ob1E, og_t z2, z3]; exact b1
  · rw [z2] at b1
    rw [if_neg z1]; exact b1
