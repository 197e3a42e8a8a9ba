theorem op_q : OP28 InvQ := by
  intro n xi xa xl mi ma y0 y1 hn h
  obtain ⟨hI, hO⟩ := h
  obtain ⟨hC, hS, hE, hB, hD, hP⟩ := id hI
  obtain ⟨c4, c5, c7, c8, cT, cb, cw, cm, cR⟩ := id hC
  have bad : ∀ r : Int32, fX9_q (xi 15) (xi 16) (xa 23) (xa 9) (xa 10) (xa 21) y0 y1 = some (r, xa 21) → fX10_q (mi 12) (mi 11) (mi 0) (ma 24) (ma 1) (ma 10) y0 y1 = some (r, 0, ma 10) → ∃ (rx : Int32) (x_v_player_label_octets : Nat → Int32) (rm : Int32) (m_v_thrown : Int32) (m_v_channel : Nat → Int32), fX9_q (xi 15) (xi 16) (xa 23) (xa 9) (xa 10) (xa 21) y0 y1 = some (rx, x_v_player_label_octets) ∧ fX10_q (mi 12) (mi 11) (mi 0) (ma 24) (ma 1) (ma 10) y0 y1 = some (rm, m_v_thrown, m_v_channel) ∧ rx = rm ∧ InvQ (n + 1) xi (updA xa 21 x_v_player_label_octets) xl (upd mi 0 m_v_thrown) (updA ma 10 m_v_channel) := fun r g1 g2 => ⟨r, xa 21, r, 0, ma 10, g1, g2, rfl, ⟨hC, hS, hE, hB, hD.mono, hP⟩, hO⟩
  have e0 : (0 : Int32).toInt = 0 := by decide
  have e6 : (6 : Int32).toInt = 6 := by decide
  obtain ⟨p1, p2⟩ := id hP
  rcases p2 with p2 | ⟨p2, f, S, hf, hS1, hS2, ef, efm, es, esm, hk, _, _, _⟩
  · refine bad (-1) ?_ ?_
    · unfold fX9_q fX5_sectionTells
      simp only [jkE]
      rw [if_pos p2, if_pos trivial, ob2E]
    · unfold fX10_q
      rw [← p1, if_pos p2]
  · have hd1 : xi 15 = 1 := p2
    have hw : ∀ k, k < f → xa 23 k = nI ((ma 24 k).toNatClampNeg) ∧ ma 24 k = nI ((ma 24 k).toNatClampNeg) ∧ (ma 24 k).toNatClampNeg < 16384 := fun k hkf => by
      obtain ⟨k1, k2, k3, _⟩ := hk k hkf
      obtain ⟨a, ha, ea⟩ := i_of k2
      have ha2 : a < 16384 := by rw [ea, nI_ti ha] at k3; omega
      rw [← k1, ea, nI_clamp (by omega)]
      exact ⟨rfl, rfl, ha2⟩
    rcases i_cases y0 with hy | ⟨s, hs, rfl⟩
    · have hy2 := ti_lt.mp hy
      refine bad (-1) ?_ ?_
      · unfold fX9_q fX5_sectionTells
        simp only [jkE]
        rw [hd1, if_neg ne10, if_pos hy, if_pos trivial, ob2E]
      · unfold fX10_q
        rw [← p1, hd1, if_neg ne10, if_neg (fun q => by have := ti_le.mp q; omega)]
    · obtain ⟨r, r1, r2, r3⟩ := secAt (be := xa 23) (mbe := ma 24) hf hs (fun k hkf => (hk k hkf).1) FU 0 (by omega) (by rw [FU_eq]; omega) (by show 0 ≤ s; omega)
      have r1' : fX5_sectionStart 1 (nI f) (xa 23) (nI s) = some r := r1
      have r2' : fX10_sectionAt (nI f) (ma 24) (nI s) = some r := r2
      have c1 : fX9_q (xi 15) (xi 16) (xa 23) (xa 9) (xa 10) (xa 21) (nI s) y1 = ob2 (if r = (-1 : Int32) then some ((-1), xa 21) else if y1 < 0 then some ((-1), xa 21) else if y1 ≤ (6 : Int32) then ob2 (fX5_readLabel 1 (nI f) (xa 23) (xa 21) (xa 9) (xa 10) r) fun r_6 v_label_octets_7 => jk (fun (t_9 : Int32) => if y1 = 0 then if t_9 = 0 then some (0, v_label_octets_7) else some (1, v_label_octets_7) else if t_9 = 0 then some ((-1), v_label_octets_7) else if y1 = 1 then ob1 (fX4_control v_label_octets_7) fun r_14 => some (r_14, v_label_octets_7) else if y1 = 2 then ob1 (fX4_track v_label_octets_7) fun r_17 => some (r_17, v_label_octets_7) else if y1 = 3 then ob1 (fX4_index v_label_octets_7) fun r_20 => some (r_20, v_label_octets_7) else if y1 = 4 then ob1 (fX4_time v_label_octets_7) fun r_23 => some (r_23, v_label_octets_7) else if y1 = 5 then ob1 (fX4_place v_label_octets_7) fun r_26 => some (r_26, v_label_octets_7) else some (r_6, v_label_octets_7)) fun j66_10 => jk (j66_10 0) fun j65_29 => if r_6 = (-1 : Int32) then j65_29 else ob1 (fX4_isSound v_label_octets_7) fun r_31 => if r_31 = 0 then j65_29 else j66_10 1 else some ((-1), xa 21)) fun r_1 v_player_label_octets_2 => some (r_1, v_player_label_octets_2) := by
        unfold fX9_q fX5_sectionTells
        rw [jkE, jkE, hd1, if_neg ne10, if_neg (nI_pos hs), ef, r1', ob1E]
      have c2 : fX10_q (mi 12) (mi 11) (mi 0) (ma 24) (ma 1) (ma 10) (nI s) y1 = if r < 0 then some ((-1), 0, ma 10) else nt1 (fX10_in (Int32.toInt64 y1) 0 6) fun r_6 => if r_6 = 0 then some ((-1), 0, ma 10) else ob2 (fX10_isSound (nI f) (ma 24) (ma 1) (ma 10) r) fun r_9 v_channel_10 => if y1 = 0 then if r_9 = 0 then some (0, 0, v_channel_10) else some (1, 0, v_channel_10) else if r_9 = 0 then some ((-1), 0, v_channel_10) else jk (fun (x5_14 : Int32) => if y1 = (1 : Int32) then ob1 (fX10_channelBits v_channel_10 0 4) fun r_29 => some (r_29, 0, v_channel_10) else if y1 = (2 : Int32) then ob1 (fX10_twoFigures v_channel_10 8) fun r_27 => some (r_27, 0, v_channel_10) else if y1 = (3 : Int32) then ob1 (fX10_twoFigures v_channel_10 16) fun r_25 => some (r_25, 0, v_channel_10) else if y1 = (4 : Int32) then ob1 (fX10_clockOf v_channel_10 24) fun r_23 => some (r_23, 0, v_channel_10) else if y1 = (5 : Int32) then ob1 (fX10_clockOf v_channel_10 56) fun r_21 => some (r_21, 0, v_channel_10) else some (x5_14, 0, v_channel_10)) fun j114_15 => fX10_q_L77 j114_15 r (ma 24) (ma 1) FU 2 0 := by
        unfold fX10_q
        rw [← p1, hd1, if_neg ne10, if_pos (nI_pos' hs), efm, r2', ob1E]
      rcases r3 with rfl | ⟨q, hq, rfl⟩
      · exact bad (-1) (by rw [c1, if_pos rfl, ob2E]) (by rw [c2, if_pos (by decide)])
      · rw [if_neg (nI_m1 (by omega))] at c1
        rw [if_neg (nI_pos (by omega))] at c2
        by_cases hy1 : 0 ≤ y1.toInt ∧ y1.toInt ≤ 6
        · rw [if_neg (fun z => by have := ti_lt.mp z; omega), if_pos (ti_le.mpr (by omega))] at c1
          rw [in_1 (by rw [tl_i]; show (0 : Int) ≤ _ ∧ _ ≤ (6 : Int); exact hy1), nt1E, if_neg ne10] at c2
          -- a label that cannot be read
          have nosound : ∀ (r6 : Int32) (o' ch' : Nat → Int32), fX5_readLabel 1 (nI f) (xa 23) (xa 21) (xa 9) (xa 10) (nI q) = some (-1, o') → fX10_isSound (nI f) (ma 24) (ma 1) (ma 10) (nI q) = some (0, ch') → (∀ j, j < 12 → ∀ i, i < 32 → 8 ≤ i → bt (o' j) i = false) → ∃ (rx : Int32) (x_v_player_label_octets : Nat → Int32) (rm : Int32) (m_v_thrown : Int32) (m_v_channel : Nat → Int32), fX9_q (xi 15) (xi 16) (xa 23) (xa 9) (xa 10) (xa 21) (nI s) y1 = some (rx, x_v_player_label_octets) ∧ fX10_q (mi 12) (mi 11) (mi 0) (ma 24) (ma 1) (ma 10) (nI s) y1 = some (rm, m_v_thrown, m_v_channel) ∧ rx = rm ∧ InvQ (n + 1) xi (updA xa 21 x_v_player_label_octets) xl (upd mi 0 m_v_thrown) (updA ma 10 m_v_channel) := fun r6 o' ch' g1 g2 g3 => by
            rw [g1, ob2E, jkE, jkE, if_pos rfl] at c1
            rw [g2, ob2E] at c2
            by_cases hz : y1 = 0
            · simp only [if_pos hz] at c1
              rw [if_pos hz, if_pos rfl] at c2
              rw [if_pos trivial, ob2E] at c1
              exact ⟨0, o', 0, 0, ch', c1, c2, rfl, ⟨hC, hS, hE, hB, hD.mono, hP⟩, g3⟩
            · simp only [if_neg hz] at c1
              rw [if_neg hz, if_pos rfl] at c2
              rw [if_pos trivial, ob2E] at c1
              exact ⟨-1, o', -1, 0, ch', c1, c2, rfl, ⟨hC, hS, hE, hB, hD.mono, hP⟩, g3⟩
          by_cases hq98 : q + 98 ≤ f
          · have hrl : fX5_readLabel 1 (nI f) (xa 23) (xa 21) (xa 9) (xa 10) (nI q) = fX5_readLabel_L21 1 (nI f) (nI q) (xa 9) (xa 10) (xa 23) FU 2 0 (xa 21) := by
              unfold fX5_readLabel
              rw [if_neg (nI_pos (by omega)), show nI q + (98 : Int32) = nI (q + 98) from nI_add q 98, if_pos (nI_le hq98 (by omega))]
            have lab := fun jj => labL (kn' := xa 9) (sq := xa 10) (be := xa 23) (mbe := ma 24) (mby := ma 1) (w := fun k => (ma 24 k).toNatClampNeg) (f := f) (q := q) (jj := jj) hf hq98 hw cb cm FU 0 (xa 21) (ma 10) (by omega) (by rw [FU_eq]; omega) (OB_0 hO) (fun t ht => by omega) (fun t ht => by omega)
            rcases lab (fun _ _ => none) with ⟨o', ch0, l1, _, l3, _, l5⟩ | ⟨o', ch0, l1, _, l3⟩
            · -- all bytes are there
              have hs19 : ∀ jj : Int32 → (Nat → Int32) → Option (Int32 × (Nat → Int32)), ∃ ch', fX10_isSound_L19 jj (nI q) (ma 24) (ma 1) FU 2 1 (ma 10) = jj 1 ch' ∧ ∀ t, t < 96 → ch' t = b01 (Zf (fun k => (ma 24 k).toNatClampNeg) q t) := fun jj => by
                rcases lab jj with ⟨o2, ch2, m1, m2, m3, m4, m5⟩ | ⟨o2, ch2, m1, m2, m3⟩
                · exact ⟨ch2, m2, m4⟩
                · exfalso
                  have hx := l1.symm.trans m1
                  have hx2 := congrArg (fun z => z.map (fun t => t.1)) hx
                  have hx3 : some (nI (pop (Zp (fun k => (ma 24 k).toNatClampNeg) q) 96)) = some (-1 : Int32) := hx2
                  have hpl := pop_le (Zp (fun k => (ma 24 k).toNatClampNeg) q) 96
                  exact nI_m1 (by omega) (Option.some.inj hx3)
              obtain ⟨ch', g1, g2⟩ := sndR (jr := (0, fun _ => 0)) hf hq98 hs19
              have l1' : fX5_readLabel_L21 1 (nI f) (nI q) (xa 9) (xa 10) (xa 23) FU 2 0 (xa 21) = _ := l1
              have hpl := pop_le (Zp (fun k => (ma 24 k).toNatClampNeg) q) 96
              have ho8 : ∀ j, j < 12 → ∀ i, i < 32 → 8 ≤ i → bt (o' j) i = false := fun j hj => (l3 j hj).1
              rw [hrl, l1', ob2E, jkE, jkE, if_neg (nI_m1 (by omega)), sndC l3, ob1E] at c1
              rw [g1, ob2E, ← sCR] at c2
              have h77 := fun jj => q77 (jj := jj) (mbe := ma 24) (mby := ma 1) (w := fun k => (ma 24 k).toNatClampNeg) hf hq98 (fun k hkf => (hw k hkf).2) cm l5 FU 0 (by omega) (by rw [FU_eq]; omega)
              have h77' : ∀ jj, fX10_q_L77 jj (nI q) (ma 24) (ma 1) FU 2 0 = jj (nI (pop (Zp (fun k => (ma 24 k).toNatClampNeg) q) 96)) := h77
              rw [jkE, h77'] at c2
              generalize Zf (fun k => (ma 24 k).toNatClampNeg) q = Z at *
              have fin : ∀ r : Int32, fX9_q (xi 15) (xi 16) (xa 23) (xa 9) (xa 10) (xa 21) (nI s) y1 = some (r, o') → fX10_q (mi 12) (mi 11) (mi 0) (ma 24) (ma 1) (ma 10) (nI s) y1 = some (r, 0, ch') → ∃ (rx : Int32) (x_v_player_label_octets : Nat → Int32) (rm : Int32) (m_v_thrown : Int32) (m_v_channel : Nat → Int32), fX9_q (xi 15) (xi 16) (xa 23) (xa 9) (xa 10) (xa 21) (nI s) y1 = some (rx, x_v_player_label_octets) ∧ fX10_q (mi 12) (mi 11) (mi 0) (ma 24) (ma 1) (ma 10) (nI s) y1 = some (rm, m_v_thrown, m_v_channel) ∧ rx = rm ∧ InvQ (n + 1) xi (updA xa 21 x_v_player_label_octets) xl (upd mi 0 m_v_thrown) (updA ma 10 m_v_channel) := fun r g1 g2 => ⟨r, o', r, 0, ch', g1, g2, rfl, ⟨hC, hS, hE, hB, hD.mono, hP⟩, ho8⟩
              have b0 : fX4_control o' = some (nI (tkN Z 0 4)) := by
                unfold fX4_control
                rw [og_t (show ixb 0 12 = true from rfl), show (0 : Int32).toNatClampNeg = 0 from rfl, (oc4 l3 (j := 0) (by omega)).1]
              have b1 : fX4_track o' = some (nI (nu Z 8)) := by
                unfold fX4_track
                have : fX4_number o' 1 = _ := numC l3 (j := 1) (by omega)
                rw [this, ob1E]
              have b2 : fX4_index o' = some (nI (nu Z 16)) := by
                unfold fX4_index
                have : fX4_number o' 2 = _ := numC l3 (j := 2) (by omega)
                rw [this, ob1E]
              have b3 : fX4_time o' = some (nI (4500 * nu Z 24 + 75 * nu Z 32 + nu Z 40)) := by
                unfold fX4_time
                have : fX4_timeOf o' 3 = _ := clockC l3 (j := 3) (by omega)
                rw [this, ob1E]
              have b4 : fX4_place o' = some (nI (4500 * nu Z 56 + 75 * nu Z 64 + nu Z 72)) := by
                unfold fX4_place
                have : fX4_timeOf o' 7 = _ := clockC l3 (j := 7) (by omega)
                rw [this, ob1E]
              have d0 : fX10_channelBits ch' 0 4 = _ := chB_eq (n := 4) (a := 0) g2 (by omega) (by omega)
              have d1 : fX10_twoFigures ch' 8 = _ := twoF (a := 8) g2 (by omega)
              have d2 : fX10_twoFigures ch' 16 = _ := twoF (a := 16) g2 (by omega)
              have d3 : fX10_clockOf ch' 24 = _ := clockR (a := 24) g2 (by omega)
              have d4 : fX10_clockOf ch' 56 = _ := clockR (a := 56) g2 (by omega)
              cases hsc : sC Z with
              | false =>
                rw [hsc] at c1 c2
                rw [if_pos (show b01 false = (0 : Int32) from rfl)] at c1
                by_cases hz : y1 = 0
                · simp only [if_pos hz] at c1
                  rw [if_pos hz, if_pos (show b01 false = (0 : Int32) from rfl)] at c2
                  rw [if_pos trivial, ob2E] at c1
                  exact fin 0 c1 c2
                · simp only [if_neg hz] at c1
                  rw [if_neg hz, if_pos (show b01 false = (0 : Int32) from rfl)] at c2
                  rw [if_pos trivial, ob2E] at c1
                  exact fin (-1) c1 c2
              | true =>
                rw [hsc] at c1 c2
                rw [if_neg (show ¬ b01 true = (0 : Int32) from by decide)] at c1
                by_cases hz : y1 = 0
                · simp only [if_pos hz] at c1
                  rw [if_pos hz, if_neg (show ¬ b01 true = (0 : Int32) from by decide)] at c2
                  rw [if_neg ne10, ob2E] at c1
                  exact fin 1 c1 c2
                · simp only [if_neg hz] at c1
                  rw [if_neg hz, if_neg (show ¬ b01 true = (0 : Int32) from by decide)] at c2
                  rw [if_neg ne10, b0, ob1E, b1, ob1E, b2, ob1E, b3, ob1E, b4, ob1E] at c1
                  rw [d0, ob1E, d1, ob1E, d2, ob1E, d3, ob1E, d4, ob1E] at c2
                  by_cases h1 : y1 = 1
                  · rw [if_pos h1, ob2E] at c1
                    rw [if_pos h1] at c2
                    exact fin _ c1 c2
                  rw [if_neg h1] at c1 c2
                  by_cases h2 : y1 = 2
                  · rw [if_pos h2, ob2E] at c1
                    rw [if_pos h2] at c2
                    exact fin _ c1 c2
                  rw [if_neg h2] at c1 c2
                  by_cases h3 : y1 = 3
                  · rw [if_pos h3, ob2E] at c1
                    rw [if_pos h3] at c2
                    exact fin _ c1 c2
                  rw [if_neg h3] at c1 c2
                  by_cases h4 : y1 = 4
                  · rw [if_pos h4, ob2E] at c1
                    rw [if_pos h4] at c2
                    exact fin _ c1 c2
                  rw [if_neg h4] at c1 c2
                  by_cases h5 : y1 = 5
                  · rw [if_pos h5, ob2E] at c1
                    rw [if_pos h5] at c2
                    exact fin _ c1 c2
                  rw [if_neg h5] at c1 c2
                  rw [ob2E] at c1
                  exact fin _ c1 c2
            · -- one is strange
              have l1' : fX5_readLabel_L21 1 (nI f) (nI q) (xa 9) (xa 10) (xa 23) FU 2 0 (xa 21) = _ := l1
              have hso : ∃ ch', fX10_isSound (nI f) (ma 24) (ma 1) (ma 10) (nI q) = some (0, ch') := by
                unfold fX10_isSound
                rw [jkE, show nI q + (97 : Int32) = nI (q + 97) from nI_add q 97, if_neg (nI_ge (by omega) (by omega))]
                dsimp only
                rw [jkE]
                rcases lab (fun x2_3 v_channel_4 => if x2_3 = 0 then some (0, v_channel_4) else jk (fun (x3_7 : Int32) => ob1 (fX10_channelBits v_channel_4 80 16) fun r_9 => jk (fun (t_11 : Int32) => jk (fun (x2_13 : Int32) => if x2_13 = 0 then some (0, v_channel_4) else ob1 (fX10_isClock v_channel_4 24) fun r_16 => if r_16 = 0 then some (0, v_channel_4) else ob1 (fX10_isClock v_channel_4 56) fun r_19 => if r_19 = 0 then some (0, v_channel_4) else some (1, v_channel_4)) fun j196_14 => fX10_isSound_L147 j196_14 v_channel_4 FU 8 t_11) fun j142_12 => jk (j142_12 0) fun j141_37 => if (r_9 ^^^ (65535 : Int32)) = x3_7 then ob1 (fX10_channelBits v_channel_4 4 4) fun r_39 => if r_39 = (1 : Int32) then j142_12 1 else j141_37 else j141_37) fun j112_8 => fX10_isSound_L87 j112_8 v_channel_4 FU 0 0) with ⟨o2, ch2, m1, m2, m3, m4, m5⟩ | ⟨o2, ch2, m1, m2, m3⟩
                · exfalso
                  have hx := l1.symm.trans m1
                  have hx2 := congrArg (fun z => z.map (fun t => t.1)) hx
                  have hx3 : some (-1 : Int32) = some (nI (pop (Zp (fun k => (ma 24 k).toNatClampNeg) q) 96)) := hx2
                  have hpl := pop_le (Zp (fun k => (ma 24 k).toNatClampNeg) q) 96
                  exact nI_m1 (by omega) (Option.some.inj hx3).symm
                · exact ⟨ch2, m2⟩
              obtain ⟨ch', hso⟩ := hso
              exact nosound 0 o' ch' (by rw [hrl]; exact l1') hso (fun j hj => (l3 j hj).1)
          · -- too near the end
            refine nosound 0 (xa 21) (ma 10) ?_ ?_ hO
            · unfold fX5_readLabel
              rw [if_neg (nI_pos (by omega)), show nI q + (98 : Int32) = nI (q + 98) from nI_add q 98, if_neg (nI_ge (by omega) (by omega))]
            · unfold fX10_isSound
              rw [jkE, show nI q + (97 : Int32) = nI (q + 97) from nI_add q 97, if_pos (nI_le (by omega) (by omega))]
              dsimp only
              rw [jkE, show FU = 999999 + 1 from rfl, fX10_isSound_L19.eq_2, if_neg (by decide), if_pos rfl, if_pos rfl]
        · have cb1 : fX9_q (xi 15) (xi 16) (xa 23) (xa 9) (xa 10) (xa 21) (nI s) y1 = some (-1, xa 21) := by
            rw [c1]
            by_cases z : y1 < 0
            · rw [if_pos z, ob2E]
            · have z' : ¬ y1.toInt < (0 : Int32).toInt := fun w => z (ti_lt.mpr w)
              rw [if_neg z, if_neg (fun w => by have := ti_le.mp w; omega), ob2E]
          exact bad (-1) cb1 (by rw [c2, in_0 (by rw [tl_i]; show ¬ ((0 : Int) ≤ _ ∧ _ ≤ (6 : Int)); exact hy1), nt1E, if_pos rfl])
