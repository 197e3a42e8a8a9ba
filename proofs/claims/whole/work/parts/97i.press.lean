/-! ===== press ===== -/
theorem nt4E {A B C D β : Type} (x : A) (y : B) (z : C) (u : D) (k : A → B → C → D → β) : nt4 (x, y, z, u) k = k x y z u := (rfl : nt4 (x, y, z, u) k = k x y z u).trans rfl
theorem fillBL {A : Nat} (hA : A < 2147483648) : ∀ (F k : Nat) (a : Nat → Int32), k ≤ A → A - k < F → ∃ a', fJ7_fill_031fb_L5 (nI A) A 0 F (nI k) a = some a' ∧ ∀ c, a' c = if k ≤ c ∧ c < A then 0 else a c := by
  intro F
  induction F with
  | zero => intro k a _ h; omega
  | succ F ih =>
    intro k a hk hF
    rw [fJ7_fill_031fb_L5.eq_2]
    by_cases h1 : A ≤ k
    · rw [if_pos (nI_le h1 (by omega))]
      exact ⟨a, rfl, fun c => by rw [if_neg (by omega)]⟩
    · rw [if_neg (nI_ge (by omega) (by omega)), og_nI (by omega) hA, nmE, nmE, nI_clamp (by omega), nI_1, show vp_nar .byte (0 : Int32) = 0 from rfl]
      obtain ⟨a', g1, g2⟩ := ih (k + 1) (upd a k 0) (by omega) (by omega)
      refine ⟨a', g1, fun c => ?_⟩
      rw [g2 c]
      by_cases q : c = k
      · subst q
        rw [if_neg (by omega), if_pos (by omega), pk_us]
      · rw [pk_un q]
        by_cases q2 : k + 1 ≤ c ∧ c < A
        · rw [if_pos q2, if_pos (by omega)]
        · rw [if_neg q2, if_neg (by omega)]
theorem fillB_eq {A : Nat} (a : Nat → Int32) (hA : A < 999999) : ∃ a', fJ7_fill_031fb a A 0 = some a' ∧ ∀ c, c < A → a' c = 0 := by
  unfold fJ7_fill_031fb
  obtain ⟨a', g1, g2⟩ := fillBL (A := A) (by omega) FU 0 a (by omega) (by rw [FU_eq]; omega)
  refine ⟨a', ?_, fun c hc => ?_⟩
  · rw [nmE]; exact g1
  · rw [g2 c, if_pos ⟨by omega, hc⟩]
theorem empE (cells marks : Nat → Int32) : ∃ c' m', fX7_empty cells marks = some (c', m') ∧ ∀ p, p < 20480 → c' p = 0 := by
  obtain ⟨c', g1, g2⟩ := fillB_eq (A := 20480) cells (by omega)
  obtain ⟨m', k1, k2⟩ := fill_eq (A := 640) (v := 0) marks (by omega)
  unfold fX7_empty
  rw [g1, ob1E, k1, ob1E]
  exact ⟨c', m', rfl, g2⟩
theorem owE {pwr lg st : Nat → Int32} {D fr : Nat} {sp : Int32} {lo so su c : Nat → Int32} (hT : TabF pwr lg) (hD : D ≤ 11712) (hfr : fr ≤ 640) (hc : ∀ p, p < 20480 → c p = 0) : ∃ sp' lo' so' su' c', fX6_makeOuterWords 12 28 sp lo so su c lg pwr st 11712 (nI D) (nI fr) = some (sp', lo', so', su', c') ∧ ∀ j, j < fr → RW c' (oV st D j) j := by
  unfold fX6_makeOuterWords
  rw [jkE]
  obtain ⟨c1, a1, a2⟩ := (fun jj => moL3 (jj := jj) (st := st) hD FU 0 c (by omega) (by rw [FU_eq]; omega) (fun v i hv hi => by
    rw [hc _ (by omega)]
    unfold oW
    rw [if_neg (fun z => by have := z.2.2; omega)]; rfl)) _
  have a1' : fX6_makeOuterWords_L3 (nI D) _ 11712 st FU 0 c = _ := a1
  obtain ⟨sp', lo', so', su', c', b1, b2⟩ := moL59 (st := st) (D := D) hT hfr FU 0 sp lo so su c1 (by omega) (by rw [FU_eq]; omega) (fun j hj => by omega) (fun j _ hj i hi => a2 j i hj hi)
  have b1' : fX6_makeOuterWords_L59 (nI fr) 12 28 lg pwr FU 0 sp lo so su c1 = _ := b1
  rw [a1', b1']
  exact ⟨sp', lo', so', su', c', rfl, b2⟩
theorem cutE {c inn mw sm' : Nat → Int32} {ents me : Int32} {sc ct tr ix msc mct mtr mix : Nat → Int32} {r : Nat → Int32} {T I C : Nat → Nat} {D fr b : Nat} (hcon : ConF ents sc ct tr ix me msc mct mtr mix r T I C) (hw : ∀ j, j < 256 → mw j = wordsF j) (hfr : fr ≤ 599) (hfr1 : 1 ≤ fr) (hb : b ≤ 400000) (hc : ∀ f, f < fr → RW c (frB sm' D f) f) (hi : ∀ j, j < fr → ∀ i, i < 32 → inn (32 * j + i) = nI (iV sm' D j i)) (gap lv : Int32) (re : Int64) (su : Int32) (pk : Nat → Int32) (hpk : ∀ i, i < 360000 → pbit pk i = false) (o ch bi : Nat → Int32) (ma mo st : Int32) (kk : Int32 → Int32 → Int32 → Int32 → Int32 → (Nat → Int32) → Int32 → Int32 → Int32 → (Nat → Int32) → Option (Int32 × Int32 × Int32 × Int32 × Int32 × Int32 × Int32 × Int32 × Int32 × Int32 × Int32 × Int32 × Int32 × (Nat → Int32) × (Nat → Int32) × (Nat → Int32) × (Nat → Int32) × (Nat → Int32) × (Nat → Int32) × (Nat → Int32) × (Nat → Int32) × (Nat → Int32) × (Nat → Int32))) :
    ∃ (gap' lv' : Int32) (re' : Int64) (su' : Int32) (pk' : Nat → Int32) (mlv' msu' ta' ze' : Int32) (bi' : Nat → Int32) (ma' mo' st' : Int32) (o' ch' : Nat → Int32), fX6_cut gap lv re su ents (nI b) 0 ct ix sc tr pk o c (nI fr) = some (gap', lv', re', su', nI (588 * fr), pk', o') ∧
    (ob6 (fX10_layBits 0 1 0 0 0 bi 8392706 24) fun v_length_20 v_level_21 v_sum_22 v_tail_23 v_zeros_24 v_bits_25 => jk (fun (v_length_27 : Int32) (v_zeros_28 : Int32) (v_level_29 : Int32) (v_sum_30 : Int32) (v_tail_31 : Int32) (v_may_32 : Int32) (v_mocks_33 : Int32) (v_sumThen_34 : Int32) (v_bits_35 : Nat → Int32) (v_channel_36 : Nat → Int32) => ob6 (fX10_layBits v_length_27 v_level_29 v_sum_30 v_tail_31 v_zeros_28 v_bits_35 0 3) fun v_length_38 v_level_39 v_sum_40 v_tail_41 v_zeros_42 v_bits_43 => kk v_length_38 v_level_39 v_sum_40 v_tail_41 v_zeros_42 v_bits_43 v_may_32 v_mocks_33 v_sumThen_34 v_channel_36) fun j200_37 => fX10_press_L126 (nI fr) j200_37 (nI b) me mct mix msc mtr mw inn FU 0 v_length_20 v_zeros_24 v_level_21 v_sum_22 v_tail_23 ma mo st v_bits_25 ch) = kk (nI (588 * fr)) mlv' msu' ta' ze' bi' ma' mo' st' ch' ∧ (∀ i, i < 588 * fr → bi' i = b01 (pbit pk' i)) ∧ ∀ i, 588 * fr ≤ i → i < 360000 → pbit pk' i = false := by
  obtain ⟨_, sV, _, ⟨z, hz1, hz2, hz3, hz4⟩⟩ := okW_s
  have hP0 : ∀ t, t < 24 → lay (fun _ => false) 0 8392706 24 (0 + t) = (8392706 : Nat).testBit (24 - 1 - t) := fun t ht => by
    unfold lay; rw [if_pos (by omega), Nat.zero_add, Nat.sub_zero]
  have hC0 : CS 0 (lay (fun _ => false) 0 8392706 24) 0 1 0 0 0 pk := ⟨rfl, rfl, fun t _ => by
    have e : bl 0 t = false := BitVec.getLsbD_zero
    rw [e]; unfold bk; rw [decide_eq_false (by omega)]; rfl, rfl, rfl, fun i hi => by rw [hpk i hi, decide_eq_false (by omega)]; rfl⟩
  have hR0 : RS 0 (lay (fun _ => false) 0 8392706 24) 0 1 0 0 0 bi := ⟨rfl, rfl, rfl, fun t _ => by
    rw [b_0]; unfold bk; rw [decide_eq_false (show ¬ t < 0 from by omega)]; simp, rfl, fun i hi => by omega⟩
  obtain ⟨g1, l1, r1, s1, z1, p1, a1, a2⟩ := carE (V := 8392706) (n := 0) (m := 24) (by omega) (by omega) sV (by omega) hP0 hC0
  obtain ⟨len1, lv1, su1, ta1, ze1, bi1, b1, b2⟩ := layE (V := 8392706) (n := 0) (m := 24) (by omega) (by omega) (by omega) hP0 hR0
  have a1' : fX6_carve 0 1 0 0 0 pk 8392706 24 = _ := a1
  have b1' : fX10_layBits 0 1 0 0 0 bi 8392706 24 = _ := b1
  have hST : ST (588 * 0 + 24) g1 l1 r1 s1 z1 p1 len1 lv1 su1 ta1 ze1 bi1 := by
    refine ⟨_, a2, b2, ?_⟩
    rw [zr_tz hz2 hP0 hz3 hz4]; exact hz1
  have hcut := fun jc jr => cutL (jc := jc) (jr := jr) (c := c) (inn := inn) (mw := mw) (sm' := sm') (D := D) (fr := fr) (S := (fr + 97) / 98) (b := b) hcon hw rfl hfr hb hc hi FU 0 0 1 0 0 0 pk g1 l1 r1 s1 z1 p1 len1 lv1 su1 ta1 ze1 bi1 ma mo st o ch (by omega) (by rw [FU_eq]; omega) (fun β j => by rw [if_pos (show nI 0 = (0 : Int32) from rfl), a1', ob6E]) hST (Or.inl rfl)
  unfold fX6_cut fX6_startGroove
  rw [nt4E, show nI fr + (98 : Int32) = nI (fr + 98) from nI_add fr 98, show nI (fr + 98) - (1 : Int32) = nI (fr + 98 - 1) from pk_sub (b := 1) (by omega), show nI (fr + 98 - 1) / (98 : Int32) = nI ((fr + 98 - 1) / 98) from pk_div (d := 98) (by omega) (by omega) (by omega), show fr + 98 - 1 = fr + 97 from by omega, nmE, jkE, b1', ob6E, jkE]
  obtain ⟨g2, l2, r2, s2, z2, p2, len2, lv2, su2, ta2, ze2, bi2, ma2, mo2, st2, o2, ch2, w1, w2, ⟨P, w3, w4, w5⟩⟩ := hcut _ _
  have w1' : fX6_cut_L16 (nI fr) _ ents ix sc c (nI b) ct tr (nI ((fr + 97) / 98)) FU 0 0 0 0 1 0 pk o = _ := w1
  have w2' : fX10_press_L126 (nI fr) _ (nI b) me mct mix msc mtr mw inn FU 0 len1 ze1 lv1 su1 ta1 ma mo st bi1 ch = _ := w2
  rw [w1', w2']
  have hQ : ∀ i, i < 588 * fr - 3 → P i = lay P (588 * fr - 3) 0 3 i := fun i hi => by unfold lay; rw [if_neg (by omega)]
  have hQ0 : ∀ t, t < 3 → lay P (588 * fr - 3) 0 3 (588 * fr - 3 + t) = (0 : Nat).testBit (3 - 1 - t) := fun t ht => by
    unfold lay; rw [if_pos (by omega), show 588 * fr - 3 + t - (588 * fr - 3) = t from by omega]
  obtain ⟨g3, l3, r3, s3, z3, p3, c1, c2⟩ := carE (V := 0) (n := 588 * fr - 3) (m := 3) (by omega) (by omega) (by omega) (by omega) hQ0 (w3.congr hQ)
  obtain ⟨len3, lv3, su3, ta3, ze3, bi3, d1, d2⟩ := layE (V := 0) (n := 588 * fr - 3) (m := 3) (by omega) (by omega) (by omega) hQ0 (w4.congr hQ)
  have c1' : fX6_carve g2 l2 r2 s2 z2 p2 0 3 = _ := c1
  have d1' : fX10_layBits len2 lv2 su2 ta2 ze2 bi2 0 3 = _ := d1
  rw [c1', d1', ob6E, ob6E]
  obtain ⟨e1, e2, e3, e4, e5, e6⟩ := c2
  obtain ⟨f1, f2, f3, f4, f5, f6⟩ := d2
  have hN : 588 * fr - 3 + 3 = 588 * fr := by omega
  rw [hN] at e5 e6 f1 f6
  rw [e5, f1]
  exact ⟨g3, l3, r3, s3, p3, lv3, su3, ta3, ze3, bi3, ma2, mo2, st2, o2, ch2, rfl, rfl, fun i hi => by rw [f6 i hi, e6 i (by omega), decide_eq_true hi]; rfl, fun i h1 h2 => by rw [e6 i h2, decide_eq_false (by omega)]; rfl⟩
theorem pz0 {pk : Nat → Int32} (h : ∀ k, k < 11250 → pk k = 0) : ∀ i, i < 360000 → pbit pk i = false := fun i hi => by
  unfold pbit; rw [h _ (by omega), b_0]
theorem rstE (pr sz : Int32) (pk : Nat → Int32) (x : Int32) : ∃ pk', fX3_reset pr sz pk x = some (x, 0, pk') ∧ ∀ i, i < 360000 → pbit pk' i = false := by
  obtain ⟨pk', f1, f2⟩ := fill_eq (A := 11250) (v := 0) pk (by omega)
  unfold fX3_reset
  rw [f1, ob1E]
  exact ⟨pk', rfl, pz0 (fun k hk => by rw [f2 k, if_pos hk])⟩
theorem op_press : OP7 Inv := by
  intro n xi xa xl mi ma hn h
  obtain ⟨hC, hS, hE, hB, hD, hP⟩ := id h
  obtain ⟨c4, c5, c7, c8, cT, cb, cw, cm, cR⟩ := id hC
  obtain ⟨i1, i2, i3, i4, i5⟩ := id hS
  obtain ⟨D, hD1, eD⟩ := i_of i3
  have emD : mi 1 = nI D := by rw [← i1, eD]
  rw [eD, nI_ti hD1] at i4
  have hD2 : D ≤ 11712 := by omega
  by_cases h0 : D = 0
  · obtain ⟨pk', f1, f2⟩ := rstE (xi 11) (xi 10) (xa 19) 0
    refine ⟨0, 0, 0, xi 6, xi 9, 0, xi 12, xi 14, xl, xi 13, pk', xa 13, xa 12, xa 11, xa 17, xa 16, xa 15, xa 2, xa 3, xa 20, 0, 0, 0, mi 8, mi 18, mi 19, 0, mi 6, mi 9, mi 20, mi 10, 0, mi 7, ma 9, ma 10, ma 17, ma 12, ma 20, ma 14, ma 16, ma 13, ma 15, ma 11, ?_, ?_, rfl, hC, hS, hE, hB, ⟨rfl, rfl, Or.inl ⟨rfl, rfl⟩, fun i hi => ?_, fun i _ hi => f2 i hi⟩, ⟨rfl, Or.inl rfl⟩⟩
    · unfold fX9_press fX5_forget fX6_pressStream
      rw [nt1E, jk_ite, if_pos (show xi 0 = 0 from by rw [eD, h0]; rfl), f1, ob3E, if_pos (show (0 : Int32) ≤ 0 from by decide)]
      rfl
    · unfold fX10_press
      rw [if_pos (show mi 1 = 0 from by rw [emD, h0]; rfl)]
    · exfalso
      have z : (0 : Int32).toInt = 0 := by decide
      have hi' : (i : Int) < (0 : Int32).toInt := hi
      omega
  · generalize hs0 : (D + 23) / 24 = S0 at *
    generalize hfr : S0 + 111 = fr at *
    have hfr1 : 1 ≤ fr := by omega
    have hfr2 : fr ≤ 599 := by omega
    have hE' := id hE
    obtain ⟨e1, e2, _, _, _, _, _, _, b1, b2, _⟩ := hE'
    obtain ⟨b, hb1, eb⟩ := i_of b1
    have emb : mi 2 = nI b := by rw [← e2, eb]
    rw [eb, nI_ti hb1] at b2
    obtain ⟨rr, T, I, C, hcon⟩ := con_ex hE
    have t1 : (nI D + (24 : Int32) - (1 : Int32)) / (24 : Int32) + (111 : Int32) = nI fr := by
      rw [show nI D + (24 : Int32) = nI (D + 24) from nI_add D 24, show nI (D + 24) - (1 : Int32) = nI (D + 24 - 1) from pk_sub (b := 1) (by omega), show nI (D + 24 - 1) / (24 : Int32) = nI ((D + 24 - 1) / 24) from pk_div (d := 24) (by omega) (by omega) (by omega), show nI ((D + 24 - 1) / 24) + (111 : Int32) = nI ((D + 24 - 1) / 24 + 111) from nI_add _ 111]
      exact congrArg nI (by omega)
    have t2 : (nI D + (23 : Int32)) / (24 : Int32) = nI S0 := by
      rw [show nI D + (23 : Int32) = nI (D + 23) from nI_add D 23, show nI (D + 23) / (24 : Int32) = nI ((D + 23) / 24) from pk_div (d := 24) (by omega) (by omega) (by omega), hs0]
    have t3 : nI S0 + (111 : Int32) = nI fr := by rw [show nI S0 + (111 : Int32) = nI (S0 + 111) from nI_add _ 111, hfr]
    have hD0 : ¬ nI D = (0 : Int32) := nI_ne0 (by omega) (by omega)
    obtain ⟨pk0, f1, f2⟩ := rstE (xi 11) (xi 10) (xa 19) (nI fr)
    obtain ⟨c0, m0, g1, g2⟩ := empE (xa 2) (xa 3)
    obtain ⟨os, olo, oso, osu, cA, k1, k2⟩ := owE (sp := xi 9) (lo := xa 17) (so := xa 16) (su := xa 15) (c := c0) (st := xa 4) (D := D) (fr := fr) cT hD2 (by omega) g2
    obtain ⟨is, ilo, iso, isu, cB, l1, l2⟩ := miL4 (st := xa 4) (D := D) (fr := fr) cT (by omega) FU fr (xi 6) (xa 13) (xa 12) (xa 11) cA (by omega) (by rw [FU_eq]; omega) k2 (fun j h1 h2 => by omega)
    obtain ⟨cC, q1, q2⟩ := mfL4 (st := xa 4) (D := D) (fr := fr) (by omega) FU fr cB (by omega) (by rw [FU_eq]; omega) l2 (fun j h1 h2 => by omega)
    have main : ∃ (gap' lv' : Int32) (re' : Int64) (su' : Int32) (pk' : Nat → Int32) (mlv' msu' ta' ze' : Int32) (bi' : Nat → Int32) (ma' mo' st' : Int32) (o' ch' inn' m' ou' p' r' s' l' w' : Nat → Int32), fX6_cut (xi 12) (xi 14) xl (xi 13) (xi 2) (nI b) 0 (xa 6) (xa 8) (xa 5) (xa 7) pk0 (xa 20) cC (nI fr) = some (gap', lv', re', su', nI (588 * fr), pk', o') ∧ fX10_press (mi 2) (mi 3) (mi 11) (mi 4) (mi 8) (mi 18) (mi 19) (mi 5) (mi 1) (mi 6) (mi 9) (mi 20) (mi 10) (mi 0) (mi 7) (ma 9) (ma 10) (ma 6) (ma 8) (ma 5) (ma 7) (ma 17) (ma 3) (ma 12) (ma 20) (ma 14) (ma 2) (ma 16) (ma 4) (ma 13) (ma 15) (ma 11) (ma 0) = some (nI fr, 0, nI (588 * fr), mlv', ma', mo', nI fr, nI S0, msu', st', ta', 0, ze', bi', ch', inn', m', ou', p', r', s', l', w') ∧ (∀ i, i < 588 * fr → bi' i = b01 (pbit pk' i)) ∧ ∀ i, 588 * fr ≤ i → i < 360000 → pbit pk' i = false := by
      unfold fX10_press
      rw [emD, emb, ← i2, if_neg hD0, t2, nmE, t3, nmE, jkE]
      obtain ⟨im, iou, ip, ir, isy, il, iw, n1, n2⟩ := (fun jj => pr56 (jj := jj) (st := xa 4) (D := D) (S := S0) (fr := fr) cR hs0.symm hD2 (by omega) FU 0 (ma 12) (ma 20) (ma 14) (ma 16) (ma 13) (ma 15) (ma 11) (by omega) (by rw [FU_eq]; omega) (fun j hj => by omega)) _
      have n1' : fX10_press_L56 (nI fr) _ (nI D) (nI S0) (ma 3) (ma 2) (xa 4) FU 0 (ma 12) (ma 20) (ma 14) (ma 16) (ma 13) (ma 15) (ma 11) = _ := n1
      rw [n1', jkE]
      obtain ⟨inn, jm, jp, jr, js, jl, jw, o1, o2⟩ := (fun jj => pr77 (jj := jj) (st := xa 4) (ou := iou) (D := D) (fr := fr) cR (by omega) n2 FU 0 (ma 17) im ip ir isy il iw (by omega) (by rw [FU_eq]; omega) (fun j hj => by omega)) _
      have o1' : fX10_press_L77 (nI fr) _ (ma 3) iou (ma 2) FU 0 (ma 17) im ip ir isy il iw = _ := o1
      rw [o1']
      obtain ⟨gap', lv', re', su', pk', mlv', msu', ta', ze', bi', ma', mo', st', o', ch', u1, u2, u3, u4⟩ := cutE (c := cC) (inn := inn) (mw := ma 0) (sm' := xa 4) (D := D) (fr := fr) (b := b) hcon cw hfr2 hfr1 (by omega) q2 o2 (xi 12) (xi 14) xl (xi 13) pk0 f2 (xa 20) (ma 10) (ma 9) (mi 18) (mi 19) (mi 20) (fun len lv su ta ze bi ma mo st ch => some (nI fr, 0, len, lv, ma, mo, nI fr, nI S0, su, st, ta, 0, ze, bi, ch, inn, jm, iou, jp, jr, js, jl, jw))
      exact ⟨gap', lv', re', su', pk', mlv', msu', ta', ze', bi', ma', mo', st', o', ch', inn, jm, iou, jp, jr, js, jl, jw, u1, u2, u3, u4⟩
    obtain ⟨gap', lv', re', su', pk', mlv', msu', ta', ze', bi', ma', mo', st', o', ch', inn', m', ou', p', r', s', l', w', u1, u2, u3, u4⟩ := main
    refine ⟨nI fr, nI fr, nI (588 * fr), is, os, 0, gap', lv', re', su', pk', ilo, iso, isu, olo, oso, osu, cC, m0, o', nI fr, 0, nI (588 * fr), mlv', ma', mo', nI fr, nI S0, msu', st', ta', 0, ze', bi', ch', inn', m', ou', p', r', s', l', w', ?_, u2, rfl, hC, hS, hE, hB, ⟨rfl, rfl, Or.inr ⟨S0, 588 * fr, by omega, by omega, rfl, by rw [hfr]; rfl, rfl, by omega, by omega⟩, fun i hi => ?_, fun i hi1 hi2 => ?_⟩, ⟨rfl, Or.inl rfl⟩⟩
    · have l1' : fX6_makeInnerWords 28 32 (xi 6) (xa 13) (xa 12) (xa 11) cA (xa 1) (xa 0) (nI fr) = some (is, ilo, iso, isu, cB) := by
        unfold fX6_makeInnerWords
        rw [nmE, dn_m]; exact l1
      have q1' : fX6_makeFrames cB (nI fr) = some cC := by
        unfold fX6_makeFrames
        rw [nmE, dn_m]; exact q1
      unfold fX9_press fX5_forget fX6_pressStream
      rw [nt1E, jk_ite, eD, eb, c4, c5, c7, c8, if_neg hD0, t1, f1, ob3E, if_neg (show ¬ nI fr ≤ (0 : Int32) from nI_ge (a := 0) (b := fr) (by omega) (by omega)), g1, ob2E, k1, ob5E, l1', ob5E, q1', ob1E, u1, ob7E]
      rfl
    · have hi' : (i : Int) < (nI (588 * fr)).toInt := hi
      rw [nI_ti (by omega)] at hi'
      exact u3 i (by omega)
    · have hi' : (nI (588 * fr)).toInt ≤ (i : Int) := hi1
      rw [nI_ti (by omega)] at hi'
      exact u4 i (by omega) hi2
