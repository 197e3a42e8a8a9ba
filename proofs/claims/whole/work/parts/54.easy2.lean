theorem sh_low8 (w : Int64) (k : Nat) (hk : k < 8) : (Int64.toInt32 (UInt64.toInt64 (Int64.toUInt64 w >>> (Int64.toUInt64 (Int32.toInt64 ((8 : Int32) * nI k)) &&& Int64.toUInt64 63)))).toInt8 = (Int64.toInt32 (w >>> (Int32.toInt64 ((8 : Int32) * nI k) &&& 63))).toInt8 := by
  have h1 : ∀ k, k < 8 → ((Int64.toUInt64 (Int32.toInt64 ((8 : Int32) * nI k)) &&& Int64.toUInt64 63).toBitVec % 64).toNat = 8 * k := by decide +kernel
  have h2 : ∀ k, k < 8 → ((Int32.toInt64 ((8 : Int32) * nI k) &&& 63).toBitVec.smod 64).toNat = 8 * k := by decide +kernel
  apply Int8.toBitVec_inj.mp
  apply BitVec.eq_of_getLsbD_eq
  intro i hi
  rw [Int32.toBitVec_toInt8, Int32.toBitVec_toInt8, Int64.toBitVec_toInt32, Int64.toBitVec_toInt32, BitVec.getLsbD_signExtend, BitVec.getLsbD_signExtend, BitVec.getLsbD_signExtend, BitVec.getLsbD_signExtend, if_pos (by omega), if_pos (by omega), if_pos (by omega), if_pos (by omega)]
  rw [show (UInt64.toInt64 (Int64.toUInt64 w >>> (Int64.toUInt64 (Int32.toInt64 ((8 : Int32) * nI k)) &&& Int64.toUInt64 63))).toBitVec = (Int64.toUInt64 w >>> (Int64.toUInt64 (Int32.toInt64 ((8 : Int32) * nI k)) &&& Int64.toUInt64 63)).toBitVec from rfl]
  rw [UInt64.toBitVec_shiftRight, Int64.toBitVec_shiftRight]
  show (decide (i < 8) && (decide (i < 32) && (w.toBitVec >>> ((Int64.toUInt64 (Int32.toInt64 ((8 : Int32) * nI k)) &&& Int64.toUInt64 63).toBitVec % 64).toNat).getLsbD i)) = (decide (i < 8) && (decide (i < 32) && (w.toBitVec.sshiftRight ((Int32.toInt64 ((8 : Int32) * nI k) &&& 63).toBitVec.smod 64).toNat).getLsbD i))
  rw [h1 k hk, h2 k hk, BitVec.getLsbD_ushiftRight, BitVec.getLsbD_sshiftRight]
  rw [if_pos (by omega), show decide (64 ≤ i) = false from decide_eq_false (by omega)]
  rfl
theorem feed_loop (w : Int64) : ∀ (F k : Nat) (fed : Int32) (st : Nat → Int32), k ≤ 8 → 0 ≤ fed.toInt → fed.toInt + k ≤ 11712 → k < F → (∀ j, isB (st j)) →
    ∃ (fed2 : Int32) (st2 : Nat → Int32), fX9_feed_L30 w F (nI k - 1) fed st = some (fed2, fed2, st2) ∧ fX10_feed_L36 w F (nI k - 1) fed st = some (fed2, fed2, 0, st2) ∧ fed2.toInt = fed.toInt + k ∧ ∀ j, isB (st2 j) := by
  intro F
  induction F with
  | zero => intro k fed st h1 h2 h3 h4; omega
  | succ F ih =>
    intro k fed st h1 h2 h3 h4 h6
    rw [fX9_feed_L30.eq_2, fX10_feed_L36.eq_2]
    cases k with
    | zero =>
      rw [if_pos (by decide), if_pos (by decide)]
      exact ⟨fed, st, rfl, rfl, by omega, h6⟩
    | succ k =>
      rw [nI_pred]
      have hk0 : ¬ nI k < 0 := nI_pos (by omega)
      rw [if_neg hk0, if_neg hk0]
      have ef : (fed + 1).toInt = fed.toInt + 1 := ti_add (by show _ ≤ _ + (1 : Int); omega) (by show _ + (1 : Int) < _; omega)
      rw [addByte_eq h2 (by omega), og_ix ⟨h2, by omega⟩, sh_low8 w k (by omega)]
      dsimp only [ob2, nm]
      obtain ⟨f2, s2, a1, a2, a3, a4⟩ := ih k (fed + 1) (upd st fed.toNatClampNeg (vp_nar .byte (Int64.toInt32 (w >>> (Int32.toInt64 ((8 : Int32) * nI k) &&& 63))).toInt8.toInt32)) (by omega) (by omega) (by omega) (by omega) (isB_upd h6)
      have em : nI k + (-1) = nI k - 1 := (Int32.sub_eq_add_neg (nI k) 1).symm
      rw [em]
      exact ⟨f2, s2, a1, a2, by omega, a4⟩
theorem op_feed : OP0 Inv := by
  intro n xi xa xl mi ma y0 y1 hn h
  obtain ⟨hC, hS, hE, hB, hD, hP⟩ := h
  obtain ⟨s1, s2, s3, s4, s5⟩ := id hS
  have e1 : ((11712 : Int32) - xi 0).toInt = 11712 - (xi 0).toInt := ti_sub (by show _ ≤ (11712 : Int) - _; omega) (by show (11712 : Int) - _ < _; omega)
  by_cases hg : 1 ≤ y1.toInt ∧ y1.toInt ≤ 8
  · have e2 : (mi 1 + y1).toInt = (xi 0).toInt + y1.toInt := by rw [← s1]; exact ti_add (by omega) (by omega)
    have g1 : ¬ y1 < (1 : Int32) := fun q => by have := ti_lt.mp q; change y1.toInt < 1 at this; omega
    have g2 : ¬ (8 : Int32) < y1 := fun q => by have := ti_lt.mp q; change 8 < y1.toInt at this; omega
    have g3 : fX10_in (Int32.toInt64 y1) 1 8 = 1 := in_1 (by rw [tl_i]; exact hg)
    by_cases hr : y1.toInt ≤ 11712 - (xi 0).toInt
    · obtain ⟨k, hk, rfl⟩ := i_of (x := y1) (by omega)
      have hk2 := nI_ti hk
      obtain ⟨f2, st2, a1, a2, a3, a4⟩ := feed_loop y0 FU k (xi 0) (xa 4) (by omega) s3 (by omega) (by rw [FU_eq]; omega) s5
      refine ⟨f2, f2, st2, f2, f2, 0, st2, ?_, ?_, rfl, hC, ?_, hE, hB, hD.mono, hP⟩
      · unfold fX9_feed
        rw [if_neg g1, if_neg g2, if_pos (ti_le.mpr (by rw [e1]; exact hr))]
        exact a1
      · unfold fX10_feed
        rw [g3]
        dsimp only [nt1, nm]
        rw [if_neg ne10, if_pos (ti_le.mpr (by rw [e2]; show _ ≤ (11712 : Int); omega)), ← s1, ← s2]
        exact a2
      · exact ⟨rfl, rfl, by show 0 ≤ f2.toInt; omega, by show f2.toInt ≤ 11712; omega, a4⟩
    · refine ⟨-1, xi 0, xa 4, -1, mi 1, 0, ma 4, ?_, ?_, rfl, hC, hS, hE, hB, hD.mono, hP⟩
      · unfold fX9_feed
        rw [if_neg g1, if_neg g2, if_neg (fun q => hr (by have := ti_le.mp q; rw [e1] at this; exact this))]
      · unfold fX10_feed
        rw [g3]
        dsimp only [nt1]
        rw [if_neg ne10, if_neg (fun q => hr (by have := ti_le.mp q; rw [e2] at this; change _ ≤ (11712 : Int) at this; omega))]
  · refine ⟨-1, xi 0, xa 4, -1, mi 1, 0, ma 4, ?_, ?_, rfl, hC, hS, hE, hB, hD.mono, hP⟩
    · unfold fX9_feed
      by_cases h1 : y1 < (1 : Int32)
      · rw [if_pos h1]
      · have h1' : ¬ y1.toInt < 1 := fun q => h1 (ti_lt.mpr q)
        rw [if_neg h1, if_pos (ti_lt.mpr (by show 8 < y1.toInt; omega))]
    · unfold fX10_feed
      rw [in_0 (by rw [tl_i]; exact hg)]
      rfl
theorem bt_clr (x : Int32) (k : Nat) (hk : k < 32) (i : Nat) (hi : i < 32) : bt (x &&& (((1 : Int32) <<< (nI k &&& 31)) ^^^ (-1))) i = (bt x i && !decide (i = k)) := by
  rw [b_and, b_xor, b_shl k hk 1 hi, b_m1 i hi]
  congr 1
  have h1 : ∀ j, j < 32 → bt 1 j = decide (j = 0) := by decide +kernel
  by_cases h : k ≤ i
  · rw [h1 (i - k) (by omega)]
    by_cases h2 : i = k
    · subst h2; simp
    · simp [h, h2, show ¬ (i - k = 0) by omega]
  · simp [h, show ¬ (i = k) by omega]
theorem bt_set (x : Int32) (k : Nat) (hk : k < 32) (i : Nat) (hi : i < 32) : bt (x ||| ((1 : Int32) <<< (nI k &&& 31))) i = (bt x i || decide (i = k)) := by
  rw [b_or, b_shl k hk 1 hi]
  congr 1
  have h1 : ∀ j, j < 32 → bt 1 j = decide (j = 0) := by decide +kernel
  by_cases h : k ≤ i
  · rw [h1 (i - k) (by omega)]
    by_cases h2 : i = k
    · subst h2; simp
    · simp [h, h2, show ¬ (i - k = 0) by omega]
  · simp [h, show ¬ (i = k) by omega]
theorem bt_tst (x : Int32) (k : Nat) (hk : k < 32) : ((x.toUInt32 >>> ((nI k).toUInt32 &&& Int32.toUInt32 31)).toInt32 &&& 1) = b01 (bt x k) := by
  have h1 : ∀ j, j < 32 → bt 1 j = decide (j = 0) := by decide +kernel
  apply b_ext
  intro i hi
  rw [b_and, b_ushr k hk, h1 i hi]
  unfold b01
  by_cases h : i = 0
  · subst h
    cases hb : bt x k
    · simp [hb, b_0]
    · simp [hb, h1 0 (by omega)]
  · cases hb : bt x k
    · simp [h, b_0]
    · simp [h, h1 i hi]
theorem op_put : OP32 Inv := by
  intro n xi xa xl mi ma y0 y1 hn h
  obtain ⟨hC, hS, hE, hB, hD, hP⟩ := h
  by_cases hg : (0 ≤ y0.toInt ∧ y0.toInt < 32) ∧ 0 ≤ y1.toInt ∧ y1.toInt ≤ 255
  · obtain ⟨k, hk, rfl⟩ := i_of hg.1.1
    obtain ⟨b, hb, rfl⟩ := i_of hg.2.1
    have hk2 := nI_ti hk
    have hb2 := nI_ti hb
    have hk3 : k < 32 := by omega
    refine ⟨xa 28 k &&& 255, xi 1 &&& (((1 : Int32) <<< (nI k &&& 31)) ^^^ (-1)), upd (xa 28) k (vp_nar .byte (nI b).toInt8.toInt32), ma 27 k, 0, upd (ma 27) k (nI b), upd (ma 28) k (vp_nar .boolean 0), ?_, ?_, (hB k hk3).2.1, hC, hS, hE, ?_, hD.mono, hP⟩
    · unfold fX9_put fX9_isBench
      rw [if_neg (fun q => by have := ti_lt.mp q; change (nI k).toInt < 0 at this; omega), if_neg (fun q => by have := ti_le.mp q; change 32 ≤ (nI k).toInt at this; omega)]
      dsimp only [nt1]
      rw [if_neg ne10, if_neg (fun q => by have := ti_lt.mp q; change (nI b).toInt < 0 at this; omega), if_pos (ti_le.mpr (by show (nI b).toInt ≤ 255; omega)), og_ix ⟨by omega, by omega⟩, nI_clamp hk]
      dsimp only [nm]
      rw [og_ix ⟨by omega, by omega⟩]
    · unfold fX10_put
      rw [in_1 (by rw [tl_i]; show 0 ≤ (nI k).toInt ∧ (nI k).toInt ≤ 31; omega)]
      dsimp only [nt1]
      rw [if_neg ne10, in_1 (by rw [tl_i]; show 0 ≤ (nI b).toInt ∧ (nI b).toInt ≤ 255; omega), if_neg ne10, og_ix ⟨by omega, by omega⟩, nI_clamp hk]
      dsimp only [nm]
      rw [og_ix ⟨by omega, by omega⟩, og_ix ⟨by omega, by omega⟩]
    · intro i hi
      obtain ⟨b1, b2, b3, b4, b5⟩ := hB i hi
      show isB (upd (xa 28) k _ i) ∧ upd (xa 28) k _ i &&& 255 = upd (ma 27) k _ i ∧ 0 ≤ (upd (ma 27) k _ i).toInt ∧ (upd (ma 27) k _ i).toInt ≤ 255 ∧ upd (ma 28) k _ i = b01 (bt (xi 1 &&& (((1 : Int32) <<< (nI k &&& 31)) ^^^ (-1))) i)
      rw [bt_clr _ k hk3 i hi]
      by_cases h : i = k
      · subst h
        have hx := isB_upd (st := fun _ => (0 : Int32)) (k := i) (b := (nI b).toInt8.toInt32) (fun j => ⟨by decide, by decide⟩) i
        rw [pk_us] at hx
        rw [pk_us, pk_us, pk_us, vnb]
        refine ⟨by rw [vnb] at hx; exact hx, ?_, by omega, by omega, by simp [b01]; rfl⟩
        have := sc_k8 b (by omega)
        rw [show (nI b).toInt8.toInt32.toInt8.toInt32 = (nI b).toInt8.toInt32 from pk_vb (nI b)]
        exact this
      · rw [pk_un h, pk_un h, pk_un h]
        exact ⟨b1, b2, b3, b4, by simp [h, b5]⟩
  · refine ⟨-1, xi 1, xa 28, -1, 0, ma 27, ma 28, ?_, ?_, rfl, hC, hS, hE, hB, hD.mono, hP⟩
    · unfold fX9_put fX9_isBench
      by_cases h1 : y0 < 0
      · rw [if_pos h1]; rfl
      · have h1' : ¬ y0.toInt < 0 := fun q => h1 (ti_lt.mpr q)
        rw [if_neg h1]
        by_cases h2 : (32 : Int32) ≤ y0
        · rw [if_pos h2]; rfl
        · have h2' : ¬ 32 ≤ y0.toInt := fun q => h2 (ti_le.mpr q)
          rw [if_neg h2]
          dsimp only [nt1]
          rw [if_neg ne10]
          by_cases h3 : y1 < 0
          · rw [if_pos h3]
          · have h3' : ¬ y1.toInt < 0 := fun q => h3 (ti_lt.mpr q)
            rw [if_neg h3, if_neg (fun q => hg ⟨by omega, by omega, ti_le.mp q⟩)]
    · unfold fX10_put
      by_cases h1 : 0 ≤ y0.toInt ∧ y0.toInt ≤ 31
      · rw [in_1 (by rw [tl_i]; exact h1)]
        dsimp only [nt1]
        rw [if_neg ne10, in_0 (by rw [tl_i]; show ¬ (0 ≤ y1.toInt ∧ y1.toInt ≤ 255); omega)]
        rfl
      · rw [in_0 (by rw [tl_i]; exact h1)]
        rfl
theorem op_mark : OP33 Inv := by
  intro n xi xa xl mi ma y0 y1 hn h hy
  obtain ⟨hC, hS, hE, hB, hD, hP⟩ := h
  by_cases hg : 0 ≤ y0.toInt ∧ y0.toInt < 32
  · obtain ⟨k, hk, rfl⟩ := i_of hg.1
    have hk2 := nI_ti hk
    have hk3 : k < 32 := by omega
    have hz : zb (b01 (bt (xi 1) k)) = true := by cases bt (xi 1) k <;> rfl
    have hm := (hB k hk3).2.2.2.2
    refine ⟨b01 (bt (xi 1) k), if y1 = 0 then xi 1 &&& (((1 : Int32) <<< (nI k &&& 31)) ^^^ (-1)) else xi 1 ||| ((1 : Int32) <<< (nI k &&& 31)), ma 28 k, 0, upd (ma 28) k (vp_nar .boolean y1), ?_, ?_, hm.symm, hC, hS, hE, ?_, hD.mono, hP⟩
    · unfold fX9_mark fX9_isBench
      rw [if_neg (fun q => by have := ti_lt.mp q; change (nI k).toInt < 0 at this; omega), if_neg (fun q => by have := ti_le.mp q; change 32 ≤ (nI k).toInt at this; omega)]
      dsimp only [nt1, jk]
      rw [if_neg ne10, bt_tst _ k hk3]
      cases hbt : bt (xi 1) k
      · rw [hbt] at hz
        rw [if_neg (by decide)]
        by_cases hy0 : y1 = 0
        · rw [if_pos hy0, if_pos hy0, og_t zb0]; rfl
        · rw [if_neg hy0, if_neg hy0, og_t zb0]; rfl
      · rw [if_pos (by decide)]
        by_cases hy0 : y1 = 0
        · rw [if_pos hy0, if_pos hy0, og_t zb1]; rfl
        · rw [if_neg hy0, if_neg hy0, og_t zb1]; rfl
    · unfold fX10_mark
      rw [in_1 (by rw [tl_i]; show 0 ≤ (nI k).toInt ∧ (nI k).toInt ≤ 31; omega)]
      dsimp only [nt1]
      rw [if_neg ne10, og_ix ⟨by omega, by omega⟩, nI_clamp hk]
      dsimp only [nm]
      rw [og_ix ⟨by omega, by omega⟩, og_t (by rw [hm]; exact hz)]
    · intro i hi
      obtain ⟨b1, b2, b3, b4, b5⟩ := hB i hi
      refine ⟨b1, b2, b3, b4, ?_⟩
      show upd (ma 28) k (vp_nar .boolean y1) i = b01 (bt (if y1 = 0 then xi 1 &&& (((1 : Int32) <<< (nI k &&& 31)) ^^^ (-1)) else xi 1 ||| ((1 : Int32) <<< (nI k &&& 31))) i)
      rcases hy with rfl | rfl
      · rw [if_pos rfl, bt_clr _ k hk3 i hi]
        by_cases h : i = k
        · subst h; rw [pk_us]; simp [b01]; rfl
        · rw [pk_un h]; simp [h, b5]
      · rw [if_neg ne10, bt_set _ k hk3 i hi]
        by_cases h : i = k
        · subst h; rw [pk_us]; simp [b01]; rfl
        · rw [pk_un h]; simp [h, b5]
  · refine ⟨0, xi 1, 0, 0, ma 28, ?_, ?_, rfl, hC, hS, hE, hB, hD.mono, hP⟩
    · unfold fX9_mark fX9_isBench
      by_cases h1 : y0 < 0
      · rw [if_pos h1]; rfl
      · have h1' : ¬ y0.toInt < 0 := fun q => h1 (ti_lt.mpr q)
        rw [if_neg h1, if_pos (ti_le.mpr (by show 32 ≤ y0.toInt; omega))]; rfl
    · unfold fX10_mark
      rw [in_0 (by rw [tl_i]; show ¬ (0 ≤ y0.toInt ∧ y0.toInt ≤ 31); omega)]
      rfl
