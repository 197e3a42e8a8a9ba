/-! ===== press: the word beside ===== -/
def ah (V m : Nat) : Nat := ((List.range m).find? (fun t => V.testBit (m - 1 - t))).getD 99
def tz (V m : Nat) : Nat := ((List.range m).find? (fun t => V.testBit t)).getD 99
def chkW (V m : Nat) : Bool := decide (V < 2 ^ m) && decide (m ≤ 24) && decide (ah V m ≤ 10) && decide (ah V m < m) && decide (tz V m ≤ 8) && decide (tz V m < m) && (List.range (ah V m)).all (fun t => !V.testBit (m - 1 - t)) && V.testBit (m - 1 - ah V m) && (List.range (tz V m)).all (fun t => !V.testBit t) && V.testBit (tz V m)
def okW (V m : Nat) : Prop := (m = 14 ∨ m = 24) ∧ V < 2 ^ m ∧ (∃ a, a ≤ 10 ∧ a < m ∧ (∀ t, t < a → V.testBit (m - 1 - t) = false) ∧ V.testBit (m - 1 - a) = true) ∧ ∃ z, z ≤ 8 ∧ z < m ∧ (∀ t, t < z → V.testBit t = false) ∧ V.testBit z = true
theorem okW_of {V m : Nat} (hm : m = 14 ∨ m = 24) (h : chkW V m = true) : okW V m := by
  unfold chkW at h
  simp only [Bool.and_eq_true, decide_eq_true_eq, List.all_eq_true, List.mem_range, Bool.not_eq_true'] at h
  obtain ⟨⟨⟨⟨⟨⟨⟨⟨⟨h1, h2⟩, h3⟩, h4⟩, h5⟩, h6⟩, h7⟩, h8⟩, h9⟩, h10⟩ := h
  exact ⟨hm, h1, ⟨ah V m, h3, h4, h7, h8⟩, ⟨tz V m, h5, h6, h9, h10⟩⟩
theorem okW_w : ∀ b, b < 256 → chkW (wN b) 14 = true := by decide +kernel
theorem okW_2049 : okW 2049 14 := okW_of (Or.inl rfl) (by decide +kernel)
theorem okW_18 : okW 18 14 := okW_of (Or.inl rfl) (by decide +kernel)
theorem okW_s : okW 8392706 24 := okW_of (Or.inr rfl) (by decide +kernel)
theorem mwE {mw : Nat → Int32} (hw : ∀ j, j < 256 → mw j = wordsF j) {b : Nat} (hb : b < 256) : mw b = nI (wN b) := by
  rw [hw b hb, (wf1 b hb).1]
def LB (o ch : Nat → Int32) : Prop := ∃ Z : Nat → Bool, (∀ k, k < 96 → bt (o (k / 8)) (7 - k % 8) = Z k) ∧ ∀ k, k < 96 → ch k = b01 (Z k)
theorem besE {ents me : Int32} {sc ct tr ix msc mct mtr mix mw : Nat → Int32} {r : Nat → Int32} {T I C : Nat → Nat} (hc : ConF ents sc ct tr ix me msc mct mtr mix r T I C) (hw : ∀ j, j < 256 → mw j = wordsF j) {f S p b : Nat} (hS : S = (p + 97) / 98) (hp : p ≤ 599) (hf : f < p) (hb : b ≤ 400000) {o ch : Nat → Int32} (hl : f % 98 = 0 ∨ LB o ch) :
    ∃ (o' ch' : Nat → Int32) (V : Nat), okW V 14 ∧ (∀ (β : Type) (j : (Nat → Int32) → Option β), (if (nI f - nI f / (98 : Int32) * (98 : Int32)) = 0 then ob1 (fX1_describe ents (nI b) ct ix sc tr o (nI f / (98 : Int32)) (nI S)) (fun q => j q) else j o) = j o') ∧ fX6_wordBeside ents ix sc o' (nI f) = some (nI V) ∧ fX10_besideWord (nI b) me (nI p) ch mct mix msc mtr mw (nI f) = some (nI V, ch') ∧ LB o' ch' := by
  have hd : nI f / (98 : Int32) = nI (f / 98) := pk_div (d := 98) (by omega) (by omega) (by omega)
  have hm : nI f - nI (f / 98) * (98 : Int32) = nI (f % 98) := by
    rw [show nI (f / 98) * (98 : Int32) = nI (f / 98 * 98) from pk_mul _ 98, pk_sub (by omega)]
    exact congrArg nI (by omega)
  have key : ∀ o' ch', LB o' ch' → ∃ V, okW V 14 ∧ fX6_wordBeside ents ix sc o' (nI f) = some (nI V) ∧ (if (2 : Int32) ≤ nI (f % 98) then ob1 (fX10_indexOf me mix msc (nI (f / 98))) fun r_5 => if r_5 = 0 then og (ixb (nI (f % 98) - (2 : Int32)) 96) (og (ixb ((128 : Int32) + ((64 : Int32) * (ch' (Int32.toNatClampNeg (nI (f % 98) - (2 : Int32)))))) 256) (some ((mw (Int32.toNatClampNeg ((128 : Int32) + ((64 : Int32) * (ch' (Int32.toNatClampNeg (nI (f % 98) - (2 : Int32)))))))), ch'))) else og (ixb (nI (f % 98) - (2 : Int32)) 96) (og (ixb ((0 : Int32) + ((64 : Int32) * (ch' (Int32.toNatClampNeg (nI (f % 98) - (2 : Int32)))))) 256) (some ((mw (Int32.toNatClampNeg ((0 : Int32) + ((64 : Int32) * (ch' (Int32.toNatClampNeg (nI (f % 98) - (2 : Int32)))))))), ch'))) else if nI (f % 98) = 0 then some (2049, ch') else some (18, ch')) = some (nI V, ch') := fun o' ch' ⟨Z, z1, z2⟩ => by
    obtain ⟨_, i1, _, a1, _, _, a4, _, _, a7, _⟩ := hc (f / 98)
    unfold fX6_wordBeside fX1_isPause
    rw [hd, hm]
    simp only [nmE, jkE]
    by_cases h2 : 2 ≤ f % 98
    · rw [if_pos (show (2 : Int32) ≤ nI (f % 98) from nI_le (a := 2) h2 (by omega)), if_pos (show (2 : Int32) ≤ nI (f % 98) from nI_le (a := 2) h2 (by omega)), a1, ob1E, a4, ob1E, a7, ob1E, show nI (f % 98) - (2 : Int32) = nI (f % 98 - 2) from pk_sub (b := 2) h2, bitO o' (by omega), z1 _ (by omega), og_nI (by omega) (by omega), og_nI (by omega) (by omega), nI_clamp (n := f % 98 - 2) (by omega), z2 _ (by omega)]
      have wE : ∀ (a : Nat) (z : Bool), (a = 0 ∨ a = 128) → ∃ V, okW V 14 ∧ (ob1 (some (b01 z)) fun r_7 => ob1 (fX8_wordOf (nI a + ((64 : Int32) * r_7))) fun r_9 => some r_9) = some (nI V) ∧ (og (ixb (nI a + ((64 : Int32) * b01 z)) 256) (some (mw (Int32.toNatClampNeg (nI a + ((64 : Int32) * b01 z))), ch'))) = some (nI V, ch') := fun a z ha => by
        rw [ob1E, b01_n, show (64 : Int32) * nI z.toNat = nI (64 * z.toNat) from pk_mul 64 _, nI_add]
        have hz : z.toNat ≤ 1 := Bool.toNat_le z
        have hlt : a + 64 * z.toNat < 256 := by omega
        rw [wordOf_eq hlt, ob1E, og_nI hlt (by omega), nI_clamp (by omega), mwE hw hlt]
        exact ⟨_, okW_of (Or.inl rfl) (okW_w _ hlt), rfl, rfl⟩
      by_cases h3 : I (f / 98) = 0
      · obtain ⟨V, v1, v2, v3⟩ := wE 128 (Z (f % 98 - 2)) (Or.inr rfl)
        rw [h3, if_pos (show nI 0 = (0 : Int32) from rfl), if_pos (show nI 0 = (0 : Int32) from rfl), ob1E, if_neg ne10]
        exact ⟨V, v1, v2, v3⟩
      · obtain ⟨V, v1, v2, v3⟩ := wE 0 (Z (f % 98 - 2)) (Or.inl rfl)
        rw [if_neg (nI_ne0 (by omega) (by omega)), if_neg (nI_ne0 (by omega) (by omega)), ob1E, if_pos rfl]
        exact ⟨V, v1, v2, v3⟩
    · rw [if_neg (show ¬ (2 : Int32) ≤ nI (f % 98) from nI_ge (b := 2) (by omega) (by omega)), if_neg (show ¬ (2 : Int32) ≤ nI (f % 98) from nI_ge (b := 2) (by omega) (by omega))]
      by_cases h0 : f % 98 = 0
      · rw [h0, if_pos (show nI 0 = (0 : Int32) from rfl), if_pos (show nI 0 = (0 : Int32) from rfl)]
        exact ⟨2049, okW_2049, rfl, rfl⟩
      · rw [if_neg (nI_ne0 (by omega) (by omega)), if_neg (nI_ne0 (by omega) (by omega))]
        exact ⟨18, okW_18, rfl, rfl⟩
  unfold fX10_besideWord
  rw [hd, hm]
  simp only [nmE, jkE]
  by_cases h0 : f % 98 = 0
  · obtain ⟨o', ch', Z, d1, d2, d3, d4⟩ := labE hc (x := f / 98) hS hp (by omega) hb o ch
    obtain ⟨V, v1, v2, v3⟩ := key o' ch' ⟨Z, d3, d4⟩
    refine ⟨o', ch', V, v1, fun β j => ?_, v2, ?_, ⟨Z, d3, d4⟩⟩
    · rw [h0, if_pos (show nI 0 = (0 : Int32) from rfl), d1, ob1E]
    · rw [if_pos (show nI (f % 98) = (0 : Int32) from by rw [h0]; rfl), d2, ob1E]; exact v3
  · have hl' : LB o ch := by
      rcases hl with h | h
      · exact absurd h h0
      · exact h
    obtain ⟨V, v1, v2, v3⟩ := key o ch hl'
    refine ⟨o, ch, V, v1, fun β j => ?_, v2, ?_, hl'⟩
    · rw [if_neg (nI_ne0 (by omega) (by omega))]
    · rw [if_neg (show ¬ nI (f % 98) = 0 from nI_ne0 (by omega) (by omega))]; exact v3
