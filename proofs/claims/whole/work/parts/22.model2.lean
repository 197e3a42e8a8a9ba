def wX10_makeInner (cB cI cZ : ClassId) (av : Nat → Nat) (a_this : Nat) (v_thrown : Int32) (v_size : Int32) (v_begins : Int32) (v_entries : Int32) (v_length : Int32) (v_pressed : Int32) (v_streamFrames : Int32) (v_zeros : Int32) (v_level : Int32) (v_sum : Int32) (v_tail : Int32) (v_isPlayed : Int32) (v_found : Int32) (v_strange : Int32) (v_innerFails : Int32) (v_outerFails : Int32) (v_mostMarks : Int32) (v_unsure : Int32) (v_may : Int32) (v_mocks : Int32) (v_sumThen : Int32) (v_inners : Nat → Int32) (v_logs : Nat → Int32) (v_marked : Nat → Int32) (v_outers : Nat → Int32) (v_places : Nat → Int32) (v_powers : Nat → Int32) (v_rows : Nat → Int32) (v_syndromes : Nat → Int32) (v_values : Nat → Int32) (v_word : Nat → Int32) : va_W := [oX10 a_this av v_thrown v_size v_begins v_entries v_length v_pressed v_streamFrames v_zeros v_level v_sum v_tail v_isPlayed v_found v_strange v_innerFails v_outerFails v_mostMarks v_unsure v_may v_mocks v_sumThen, ((av 28), .inl (cI, 20480, .inl v_inners)), ((av 4), .inl (cI, 256, .inl v_logs)), ((av 23), .inl (cZ, 32, .inl v_marked)), ((av 31), .inl (cI, 17920, .inl v_outers)), ((av 25), .inl (cI, 4, .inl v_places)), ((av 3), .inl (cI, 512, .inl v_powers)), ((av 27), .inl (cI, 20, .inl v_rows)), ((av 24), .inl (cI, 4, .inl v_syndromes)), ((av 26), .inl (cI, 4, .inl v_values)), ((av 22), .inl (cI, 32, .inl v_word))]
def fX10_makeInner_L54 (v_marked_3 : Nat → Int32) (v_places_4 : Nat → Int32) (v_rows_5 : Nat → Int32) (v_syndromes_6 : Nat → Int32) (v_values_7 : Nat → Int32) (v_word_8 : Nat → Int32) (x1 : Int32) : Nat → Int32 → (Nat → Int32) → Option ((Nat → Int32) × (Nat → Int32) × (Nat → Int32) × (Nat → Int32) × (Nat → Int32) × (Nat → Int32) × (Nat → Int32))
  | 0, _, _ => none
  | F54_12 + 1, x2_10, v_inners_11 => if (32 : Int32) ≤ x2_10 then some (v_inners_11, v_marked_3, v_places_4, v_rows_5, v_syndromes_6, v_values_7, v_word_8) else og (ixb x2_10 32) (og (ixb (((32 : Int32) * x1) + x2_10) 20480) (nm (upd v_inners_11 (Int32.toNatClampNeg (((32 : Int32) * x1) + x2_10)) (v_word_8 (Int32.toNatClampNeg x2_10))) fun v_inners_16 => nm (x2_10 + 1 : Int32) fun x2_17 => fX10_makeInner_L54 v_marked_3 v_places_4 v_rows_5 v_syndromes_6 v_values_7 v_word_8 x1 F54_12 x2_17 v_inners_16))
def fX10_makeInner_L2 (j47_2 : (Nat → Int32) → Option ((Nat → Int32) × (Nat → Int32) × (Nat → Int32) × (Nat → Int32) × (Nat → Int32) × (Nat → Int32) × (Nat → Int32))) (x1 : Int32) (v_outers : Nat → Int32) : Nat → Int32 → (Nat → Int32) → Option ((Nat → Int32) × (Nat → Int32) × (Nat → Int32) × (Nat → Int32) × (Nat → Int32) × (Nat → Int32) × (Nat → Int32))
  | 0, _, _ => none
  | F2_20 + 1, x2_18, v_word_19 => if (28 : Int32) ≤ x2_18 then j47_2 v_word_19 else jk (fun (t_22 : Int32) => og (ixb x2_18 32) (nm (upd v_word_19 (Int32.toNatClampNeg x2_18) t_22) fun v_word_25 => nm (x2_18 + 1 : Int32) fun x2_26 => fX10_makeInner_L2 j47_2 x1 v_outers F2_20 x2_26 v_word_25)) fun j40_23 => if 0 ≤ (x1 - ((4 : Int32) * x2_18)) then og (ixb (((28 : Int32) * (x1 - ((4 : Int32) * x2_18))) + x2_18) 17920) (j40_23 (v_outers (Int32.toNatClampNeg (((28 : Int32) * (x1 - ((4 : Int32) * x2_18))) + x2_18)))) else j40_23 0
def fX10_makeInner (v_inners : Nat → Int32) (v_logs : Nat → Int32) (v_marked : Nat → Int32) (v_outers : Nat → Int32) (v_places : Nat → Int32) (v_powers : Nat → Int32) (v_rows : Nat → Int32) (v_syndromes : Nat → Int32) (v_values : Nat → Int32) (v_word : Nat → Int32) (x1 : Int32) : Option ((Nat → Int32) × (Nat → Int32) × (Nat → Int32) × (Nat → Int32) × (Nat → Int32) × (Nat → Int32) × (Nat → Int32)) := jk (fun (v_word_1 : Nat → Int32) => ob6 (fX10_check v_logs v_marked v_places v_powers v_rows v_syndromes v_values v_word_1 1) fun v_marked_3 v_places_4 v_rows_5 v_syndromes_6 v_values_7 v_word_8 => fX10_makeInner_L54 v_marked_3 v_places_4 v_rows_5 v_syndromes_6 v_values_7 v_word_8 x1 FU 0 v_inners) fun j47_2 => fX10_makeInner_L2 j47_2 x1 v_outers FU 0 v_word
set_option maxHeartbeats 4000000 in
set_option maxRecDepth 100000 in
theorem ct_X10_makeInner (l : Launch) (D : va_G) (cB cI cZ : ClassId) (tw : Nat) (av : Nat → Nat) (a_this : Nat) (v_thrown : Int32) (v_size : Int32) (v_begins : Int32) (v_entries : Int32) (v_length : Int32) (v_pressed : Int32) (v_streamFrames : Int32) (v_zeros : Int32) (v_level : Int32) (v_sum : Int32) (v_tail : Int32) (v_isPlayed : Int32) (v_found : Int32) (v_strange : Int32) (v_innerFails : Int32) (v_outerFails : Int32) (v_mostMarks : Int32) (v_unsure : Int32) (v_may : Int32) (v_mocks : Int32) (v_sumThen : Int32) (v_inners : Nat → Int32) (v_logs : Nat → Int32) (v_marked : Nat → Int32) (v_outers : Nat → Int32) (v_places : Nat → Int32) (v_powers : Nat → Int32) (v_rows : Nat → Int32) (v_syndromes : Nat → Int32) (v_values : Nat → Int32) (v_word : Nat → Int32) (x1 : Int32) (res : (Nat → Int32) × (Nat → Int32) × (Nat → Int32) × (Nat → Int32) × (Nat → Int32) × (Nat → Int32) × (Nat → Int32)) (h : fX10_makeInner v_inners v_logs v_marked v_outers v_places v_powers v_rows v_syndromes v_values v_word x1 = some res) : Ctr l yX10_makeInner cX10_makeInner 3 none (rmK 4 102) D (tyL cB cI cZ) tw [.ref a_this, .int x1] (wX10_makeInner cB cI cZ av a_this v_thrown v_size v_begins v_entries v_length v_pressed v_streamFrames v_zeros v_level v_sum v_tail v_isPlayed v_found v_strange v_innerFails v_outerFails v_mostMarks v_unsure v_may v_mocks v_sumThen v_inners v_logs v_marked v_outers v_places v_powers v_rows v_syndromes v_values v_word) (fun _ : (Nat → Int32) × (Nat → Int32) × (Nat → Int32) × (Nat → Int32) × (Nat → Int32) × (Nat → Int32) × (Nat → Int32) => none) (fun res : (Nat → Int32) × (Nat → Int32) × (Nat → Int32) × (Nat → Int32) × (Nat → Int32) × (Nat → Int32) × (Nat → Int32) => (wX10_makeInner cB cI cZ av a_this v_thrown v_size v_begins v_entries v_length v_pressed v_streamFrames v_zeros v_level v_sum v_tail v_isPlayed v_found v_strange v_innerFails v_outerFails v_mostMarks v_unsure v_may v_mocks v_sumThen (res.1) v_logs (res.2.1) v_outers (res.2.2.1) v_powers (res.2.2.2.1) (res.2.2.2.2.1) (res.2.2.2.2.2.1) (res.2.2.2.2.2.2))) res := by
  refine ctr_of RX10 (by decide) rfl (Nat.le_of_ble_eq_true rfl) ?_
  intro p e s m below meth c A C hw ls hl
  have hx := C.1
  have hb := C.2.1
  have hl : lv_has ls 3 [(0, .ref a_this), (1, .int x1)] := hl
  unfold fX10_makeInner at h
  refine lv_iconst (pc := 0) (v := 0) hx hb dX10_makeInner_0 (by decide) ?_
  refine lv_istore_n (pc := 1) (lv' := [(2, .int 0), (0, .ref a_this), (1, .int x1)]) hx hb dX10_makeInner_1 rfl hl (by decide) rfl (fun ls hl => ?_)
  obtain ⟨j47_2, ej47_2, h⟩ := jk_at h
  have J47_2 : ∀ (v_word_1 : Nat → Int32) (ls : Array Slot) (H : Heap) (locs : List Loc), lv_has ls 3 [(0, .ref a_this), (1, .int x1)] → Wd D A s (wX10_makeInner cB cI cZ av a_this v_thrown v_size v_begins v_entries v_length v_pressed v_streamFrames v_zeros v_level v_sum v_tail v_isPlayed v_found v_strange v_innerFails v_outerFails v_mostMarks v_unsure v_may v_mocks v_sumThen v_inners v_logs v_marked v_outers v_places v_powers v_rows v_syndromes v_values v_word_1) H locs → j47_2 v_word_1 = some res → W p l e (rmK 4 102) s m ([.ref a_this, .int x1] : List Value).toArray below meth c H locs 0 0 (MQ below (QG D (tyL cB cI cZ) A (fun _ : (Nat → Int32) × (Nat → Int32) × (Nat → Int32) × (Nat → Int32) × (Nat → Int32) × (Nat → Int32) × (Nat → Int32) => none) (fun res : (Nat → Int32) × (Nat → Int32) × (Nat → Int32) × (Nat → Int32) × (Nat → Int32) × (Nat → Int32) × (Nat → Int32) => (wX10_makeInner cB cI cZ av a_this v_thrown v_size v_begins v_entries v_length v_pressed v_streamFrames v_zeros v_level v_sum v_tail v_isPlayed v_found v_strange v_innerFails v_outerFails v_mostMarks v_unsure v_may v_mocks v_sumThen (res.1) v_logs (res.2.1) v_outers (res.2.2.1) v_powers (res.2.2.2.1) (res.2.2.2.2.1) (res.2.2.2.2.2.1) (res.2.2.2.2.2.2))) res) ([.ref a_this, .int x1] : List Value).toArray s 0 0 A) (F0 m 47 ls []) := by
    intro v_word_1 ls H locs hl hw h
    have h := k1_at ej47_2 h
    refine lv_aload_n (pc := 47) hx hb dX10_makeInner_47 rfl (lv_at hl 0 rfl) ?_
    refine lv_iconst (pc := 48) (v := 1) hx hb dX10_makeInner_48 (by decide) ?_
    obtain ⟨v_marked_3, v_places_4, v_rows_5, v_syndromes_6, v_values_7, v_word_8, hq_9, h⟩ := ob6_at h
    refine x_callV (pc := 49) (rest := []) (stk := []) (wX10_makeInner cB cI cZ av a_this v_thrown v_size v_begins v_entries v_length v_pressed v_streamFrames v_zeros v_level v_sum v_tail v_isPlayed v_found v_strange v_innerFails v_outerFails v_mostMarks v_unsure v_may v_mocks v_sumThen v_inners v_logs v_marked_3 v_outers v_places_4 v_powers v_rows_5 v_syndromes_6 v_values_7 v_word_8) C hw (ct_X10_check l D cB cI cZ tw av a_this v_thrown v_size v_begins v_entries v_length v_pressed v_streamFrames v_zeros v_level v_sum v_tail v_isPlayed v_found v_strange v_innerFails v_outerFails v_mostMarks v_unsure v_may v_mocks v_sumThen v_logs v_marked v_places v_powers v_rows v_syndromes v_values v_word_1 1 (v_marked_3, v_places_4, v_rows_5, v_syndromes_6, v_values_7, v_word_8) hq_9) cal_X10_check tw_1228 (q0 := 0) rfl rfl [0, 2, 3, 5, 6, 7, 8, 9, 10] [1, 4] 11 [((av 28), .inl (cI, 20480, .inl v_inners)), ((av 31), .inl (cI, 17920, .inl v_outers))] rfl rfl rfl rfl rfl rfl rfl rfl rfl rfl rfl (Nat.le_of_ble_eq_true rfl) hl.1 ⟨Nat.le_of_ble_eq_true rfl, Nat.le_of_ble_eq_true rfl⟩ ⟨Nat.zero_le _, Nat.zero_le _⟩ dX10_makeInner_49 (fun H locs hw => ?_)
    refine lv_iconst (pc := 52) (v := 0) hx hb dX10_makeInner_52 (by decide) ?_
    refine lv_istore_n (pc := 53) (lv' := [(2, .int 0), (0, .ref a_this), (1, .int x1)]) hx hb dX10_makeInner_53 rfl hl (by decide) rfl (fun ls hl => ?_)
    have Lih54_12 : ∀ (F : Nat) (x2_10 : Int32) (v_inners_11 : Nat → Int32) (ls : Array Slot) (H : Heap) (locs : List Loc), lv_has ls 3 [(2, .int x2_10), (0, .ref a_this), (1, .int x1)] → Wd D A s (wX10_makeInner cB cI cZ av a_this v_thrown v_size v_begins v_entries v_length v_pressed v_streamFrames v_zeros v_level v_sum v_tail v_isPlayed v_found v_strange v_innerFails v_outerFails v_mostMarks v_unsure v_may v_mocks v_sumThen v_inners_11 v_logs v_marked_3 v_outers v_places_4 v_powers v_rows_5 v_syndromes_6 v_values_7 v_word_8) H locs → fX10_makeInner_L54 v_marked_3 v_places_4 v_rows_5 v_syndromes_6 v_values_7 v_word_8 x1 F x2_10 v_inners_11 = some res → W p l e (rmK 4 102) s m ([.ref a_this, .int x1] : List Value).toArray below meth c H locs 0 0 (MQ below (QG D (tyL cB cI cZ) A (fun _ : (Nat → Int32) × (Nat → Int32) × (Nat → Int32) × (Nat → Int32) × (Nat → Int32) × (Nat → Int32) × (Nat → Int32) => none) (fun res : (Nat → Int32) × (Nat → Int32) × (Nat → Int32) × (Nat → Int32) × (Nat → Int32) × (Nat → Int32) × (Nat → Int32) => (wX10_makeInner cB cI cZ av a_this v_thrown v_size v_begins v_entries v_length v_pressed v_streamFrames v_zeros v_level v_sum v_tail v_isPlayed v_found v_strange v_innerFails v_outerFails v_mostMarks v_unsure v_may v_mocks v_sumThen (res.1) v_logs (res.2.1) v_outers (res.2.2.1) v_powers (res.2.2.2.1) (res.2.2.2.2.1) (res.2.2.2.2.2.1) (res.2.2.2.2.2.2))) res) ([.ref a_this, .int x1] : List Value).toArray s 0 0 A) (F0 m 54 ls []) := by
      intro F
      induction F with
      | zero => intro x2_10 v_inners_11 ls H locs hl hw h; rw [fX10_makeInner_L54.eq_1] at h; cases h
      | succ F54_12 ih54_12 =>
        intro x2_10 v_inners_11 ls H locs hl hw h
        rw [fX10_makeInner_L54.eq_2] at h
        refine lv_iload_n (pc := 54) hx hb dX10_makeInner_54 rfl (lv_at hl 0 rfl) ?_
        refine lv_bipush (pc := 55) (v := 32) hx hb dX10_makeInner_55 (by decide) ?_
        refine lv_icmp_ge (pc := 57) (tgt := 83) hx hb dX10_makeInner_57 (by decide) (fun hc_13 => ?_) (fun hc_13 => ?_)
        · have h := ift hc_13 h
          exact x_vret (pc := 83) (v := (v_inners_11, v_marked_3, v_places_4, v_rows_5, v_syndromes_6, v_values_7, v_word_8)) C (Option.some.inj h) rfl hw dX10_makeInner_83
        · have h := iff' hc_13 h
          refine lv_aload_n (pc := 60) hx hb dX10_makeInner_60 rfl (lv_at hl 1 rfl) ?_
          refine gf_X10_64 (pc := 61) C hw 0 rfl rfl dX10_makeInner_61 ?_
          refine lv_bipush (pc := 64) (v := 32) hx hb dX10_makeInner_64 (by decide) ?_
          refine lv_iload_n (pc := 66) hx hb dX10_makeInner_66 rfl (lv_at hl 2 rfl) ?_
          refine lv_imul (pc := 67) hx hb dX10_makeInner_67 ?_
          refine lv_iload_n (pc := 68) hx hb dX10_makeInner_68 rfl (lv_at hl 0 rfl) ?_
          refine lv_iadd (pc := 69) hx hb dX10_makeInner_69 ?_
          refine lv_aload_n (pc := 70) hx hb dX10_makeInner_70 rfl (lv_at hl 1 rfl) ?_
          refine gf_X10_45 (pc := 71) C hw 0 rfl rfl dX10_makeInner_71 ?_
          refine lv_iload_n (pc := 74) hx hb dX10_makeInner_74 rfl (lv_at hl 0 rfl) ?_
          obtain ⟨hi_14, h⟩ := og_at h
          refine x_iald (pc := 75) C hw 10 rfl hi_14 dX10_makeInner_75 ?_
          obtain ⟨hi_15, h⟩ := og_at h
          obtain ⟨v_inners_16, ev_inners_16⟩ : ∃ y : Nat → Int32, y = upd v_inners_11 (Int32.toNatClampNeg (((32 : Int32) * x1) + x2_10)) (v_word_8 (Int32.toNatClampNeg x2_10)) := ⟨_, rfl⟩
          have h := nm_at ev_inners_16 h
          refine x_iast (pc := 76) (wX10_makeInner cB cI cZ av a_this v_thrown v_size v_begins v_entries v_length v_pressed v_streamFrames v_zeros v_level v_sum v_tail v_isPlayed v_found v_strange v_innerFails v_outerFails v_mostMarks v_unsure v_may v_mocks v_sumThen v_inners_16 v_logs v_marked_3 v_outers v_places_4 v_powers v_rows_5 v_syndromes_6 v_values_7 v_word_8) C hw 1 rfl hi_15 (by rw [ev_inners_16]; rfl) dX10_makeInner_76 (fun H locs hw => ?_)
          obtain ⟨x2_17, ex2_17⟩ : ∃ y : Int32, y = x2_10 + 1 := ⟨_, rfl⟩
          have h := nm_at ex2_17 h
          refine lv_iinc (pc := 77) (v := x2_17) (lv' := [(2, .int x2_17), (0, .ref a_this), (1, .int x1)]) hx hb dX10_makeInner_77 hl (k := 0) rfl (by rw [ex2_17]; rfl) (by decide) rfl (fun ls hl => ?_)
          refine lv_goto (pc := 80) (tgt := 54) hx hb dX10_makeInner_80 (by decide) ?_
          exact ih54_12 x2_17 v_inners_16 ls _ _ (lv_sub hl [0, 1, 2] rfl) hw h
    exact Lih54_12 FU 0 v_inners ls _ _ (lv_sub hl [0, 1, 2] rfl) hw h
  have Lih2_20 : ∀ (F : Nat) (x2_18 : Int32) (v_word_19 : Nat → Int32) (ls : Array Slot) (H : Heap) (locs : List Loc), lv_has ls 3 [(2, .int x2_18), (0, .ref a_this), (1, .int x1)] → Wd D A s (wX10_makeInner cB cI cZ av a_this v_thrown v_size v_begins v_entries v_length v_pressed v_streamFrames v_zeros v_level v_sum v_tail v_isPlayed v_found v_strange v_innerFails v_outerFails v_mostMarks v_unsure v_may v_mocks v_sumThen v_inners v_logs v_marked v_outers v_places v_powers v_rows v_syndromes v_values v_word_19) H locs → fX10_makeInner_L2 j47_2 x1 v_outers F x2_18 v_word_19 = some res → W p l e (rmK 4 102) s m ([.ref a_this, .int x1] : List Value).toArray below meth c H locs 0 0 (MQ below (QG D (tyL cB cI cZ) A (fun _ : (Nat → Int32) × (Nat → Int32) × (Nat → Int32) × (Nat → Int32) × (Nat → Int32) × (Nat → Int32) × (Nat → Int32) => none) (fun res : (Nat → Int32) × (Nat → Int32) × (Nat → Int32) × (Nat → Int32) × (Nat → Int32) × (Nat → Int32) × (Nat → Int32) => (wX10_makeInner cB cI cZ av a_this v_thrown v_size v_begins v_entries v_length v_pressed v_streamFrames v_zeros v_level v_sum v_tail v_isPlayed v_found v_strange v_innerFails v_outerFails v_mostMarks v_unsure v_may v_mocks v_sumThen (res.1) v_logs (res.2.1) v_outers (res.2.2.1) v_powers (res.2.2.2.1) (res.2.2.2.2.1) (res.2.2.2.2.2.1) (res.2.2.2.2.2.2))) res) ([.ref a_this, .int x1] : List Value).toArray s 0 0 A) (F0 m 2 ls []) := by
    intro F
    induction F with
    | zero => intro x2_18 v_word_19 ls H locs hl hw h; rw [fX10_makeInner_L2.eq_1] at h; cases h
    | succ F2_20 ih2_20 =>
      intro x2_18 v_word_19 ls H locs hl hw h
      rw [fX10_makeInner_L2.eq_2] at h
      refine lv_iload_n (pc := 2) hx hb dX10_makeInner_2 rfl (lv_at hl 0 rfl) ?_
      refine lv_bipush (pc := 3) (v := 28) hx hb dX10_makeInner_3 (by decide) ?_
      refine lv_icmp_ge (pc := 5) (tgt := 47) hx hb dX10_makeInner_5 (by decide) (fun hc_21 => ?_) (fun hc_21 => ?_)
      · have h := ift hc_21 h
        exact J47_2 v_word_19 ls _ _ (lv_sub hl [1, 2] rfl) hw h
      · have h := iff' hc_21 h
        refine lv_aload_n (pc := 8) hx hb dX10_makeInner_8 rfl (lv_at hl 1 rfl) ?_
        refine gf_X10_45 (pc := 9) C hw 0 rfl rfl dX10_makeInner_9 ?_
        refine lv_iload_n (pc := 12) hx hb dX10_makeInner_12 rfl (lv_at hl 0 rfl) ?_
        refine lv_iload_n (pc := 13) hx hb dX10_makeInner_13 rfl (lv_at hl 2 rfl) ?_
        refine lv_iconst (pc := 14) (v := 4) hx hb dX10_makeInner_14 (by decide) ?_
        refine lv_iload_n (pc := 15) hx hb dX10_makeInner_15 rfl (lv_at hl 0 rfl) ?_
        refine lv_imul (pc := 16) hx hb dX10_makeInner_16 ?_
        refine lv_isub (pc := 17) hx hb dX10_makeInner_17 ?_
        obtain ⟨j40_23, ej40_23, h⟩ := jk_at h
        have J40_23 : ∀ (t_22 : Int32) (ls : Array Slot) (H : Heap) (locs : List Loc), lv_has ls 3 [(2, .int x2_18), (0, .ref a_this), (1, .int x1)] → Wd D A s (wX10_makeInner cB cI cZ av a_this v_thrown v_size v_begins v_entries v_length v_pressed v_streamFrames v_zeros v_level v_sum v_tail v_isPlayed v_found v_strange v_innerFails v_outerFails v_mostMarks v_unsure v_may v_mocks v_sumThen v_inners v_logs v_marked v_outers v_places v_powers v_rows v_syndromes v_values v_word_19) H locs → j40_23 t_22 = some res → W p l e (rmK 4 102) s m ([.ref a_this, .int x1] : List Value).toArray below meth c H locs 0 0 (MQ below (QG D (tyL cB cI cZ) A (fun _ : (Nat → Int32) × (Nat → Int32) × (Nat → Int32) × (Nat → Int32) × (Nat → Int32) × (Nat → Int32) × (Nat → Int32) => none) (fun res : (Nat → Int32) × (Nat → Int32) × (Nat → Int32) × (Nat → Int32) × (Nat → Int32) × (Nat → Int32) × (Nat → Int32) => (wX10_makeInner cB cI cZ av a_this v_thrown v_size v_begins v_entries v_length v_pressed v_streamFrames v_zeros v_level v_sum v_tail v_isPlayed v_found v_strange v_innerFails v_outerFails v_mostMarks v_unsure v_may v_mocks v_sumThen (res.1) v_logs (res.2.1) v_outers (res.2.2.1) v_powers (res.2.2.2.1) (res.2.2.2.2.1) (res.2.2.2.2.2.1) (res.2.2.2.2.2.2))) res) ([.ref a_this, .int x1] : List Value).toArray s 0 0 A) (F0 m 40 ls [.int t_22, .int x2_18, .ref (av 22)]) := by
          intro t_22 ls H locs hl hw h
          have h := k1_at ej40_23 h
          obtain ⟨hi_24, h⟩ := og_at h
          obtain ⟨v_word_25, ev_word_25⟩ : ∃ y : Nat → Int32, y = upd v_word_19 (Int32.toNatClampNeg x2_18) t_22 := ⟨_, rfl⟩
          have h := nm_at ev_word_25 h
          refine x_iast (pc := 40) (wX10_makeInner cB cI cZ av a_this v_thrown v_size v_begins v_entries v_length v_pressed v_streamFrames v_zeros v_level v_sum v_tail v_isPlayed v_found v_strange v_innerFails v_outerFails v_mostMarks v_unsure v_may v_mocks v_sumThen v_inners v_logs v_marked v_outers v_places v_powers v_rows v_syndromes v_values v_word_25) C hw 10 rfl hi_24 (by rw [ev_word_25]; rfl) dX10_makeInner_40 (fun H locs hw => ?_)
          obtain ⟨x2_26, ex2_26⟩ : ∃ y : Int32, y = x2_18 + 1 := ⟨_, rfl⟩
          have h := nm_at ex2_26 h
          refine lv_iinc (pc := 41) (v := x2_26) (lv' := [(2, .int x2_26), (0, .ref a_this), (1, .int x1)]) hx hb dX10_makeInner_41 hl (k := 0) rfl (by rw [ex2_26]; rfl) (by decide) rfl (fun ls hl => ?_)
          refine lv_goto (pc := 44) (tgt := 2) hx hb dX10_makeInner_44 (by decide) ?_
          exact ih2_20 x2_26 v_word_25 ls _ _ (lv_sub hl [0, 1, 2] rfl) hw h
        refine lv_if_ge (pc := 18) (tgt := 25) hx hb dX10_makeInner_18 (by decide) (fun hc_27 => ?_) (fun hc_27 => ?_)
        · have h := ift hc_27 h
          refine lv_aload_n (pc := 25) hx hb dX10_makeInner_25 rfl (lv_at hl 1 rfl) ?_
          refine gf_X10_73 (pc := 26) C hw 0 rfl rfl dX10_makeInner_26 ?_
          refine lv_bipush (pc := 29) (v := 28) hx hb dX10_makeInner_29 (by decide) ?_
          refine lv_iload_n (pc := 31) hx hb dX10_makeInner_31 rfl (lv_at hl 2 rfl) ?_
          refine lv_iconst (pc := 32) (v := 4) hx hb dX10_makeInner_32 (by decide) ?_
          refine lv_iload_n (pc := 33) hx hb dX10_makeInner_33 rfl (lv_at hl 0 rfl) ?_
          refine lv_imul (pc := 34) hx hb dX10_makeInner_34 ?_
          refine lv_isub (pc := 35) hx hb dX10_makeInner_35 ?_
          refine lv_imul (pc := 36) hx hb dX10_makeInner_36 ?_
          refine lv_iload_n (pc := 37) hx hb dX10_makeInner_37 rfl (lv_at hl 0 rfl) ?_
          refine lv_iadd (pc := 38) hx hb dX10_makeInner_38 ?_
          obtain ⟨hi_28, h⟩ := og_at h
          refine x_iald (pc := 39) C hw 4 rfl hi_28 dX10_makeInner_39 ?_
          exact J40_23 (v_outers (Int32.toNatClampNeg (((28 : Int32) * (x1 - ((4 : Int32) * x2_18))) + x2_18))) ls _ _ (lv_sub hl [0, 1, 2] rfl) hw h
        · have h := iff' hc_27 h
          refine lv_iconst (pc := 21) (v := 0) hx hb dX10_makeInner_21 (by decide) ?_
          refine lv_goto (pc := 22) (tgt := 40) hx hb dX10_makeInner_22 (by decide) ?_
          exact J40_23 0 ls _ _ (lv_sub hl [0, 1, 2] rfl) hw h
  exact Lih2_20 FU 0 v_word ls _ _ (lv_sub hl [0, 1, 2] rfl) hw h
def wX10_isTurned (cB cI cZ : ClassId) (av : Nat → Nat) : va_W := []
def fX10_isTurned (x0 : Int32) : Int32 := jk (if x0 ≤ (27 : Int32) then 0 else 1) fun j12_1 => if x0 ≤ (11 : Int32) then j12_1 else if x0 < (16 : Int32) then 1 else j12_1
set_option maxHeartbeats 4000000 in
set_option maxRecDepth 100000 in
theorem ct_X10_isTurned (l : Launch) (D : va_G) (cB cI cZ : ClassId) (tw : Nat) (av : Nat → Nat) (x0 : Int32) (res : Int32) (h : fX10_isTurned x0 = res) : Ctr l yX10_isTurned cX10_isTurned 1 (some .boolean) (rmK 0 0) D (tyL cB cI cZ) tw [.int x0] (wX10_isTurned cB cI cZ av) (fun res : Int32 => some (.int res)) (fun res : Int32 => (wX10_isTurned cB cI cZ av)) res := by
  refine ctr_of RX10 (by decide) rfl (Nat.le_of_ble_eq_true rfl) ?_
  intro p e s m below meth c A C hw ls hl
  have hx := C.1
  have hb := C.2.1
  have hl : lv_has ls 1 [(0, .int x0)] := hl
  unfold fX10_isTurned at h
  refine lv_iload_n (pc := 0) hx hb dX10_isTurned_0 rfl (lv_at hl 0 rfl) ?_
  refine lv_bipush (pc := 1) (v := 11) hx hb dX10_isTurned_1 (by decide) ?_
  obtain ⟨j12_1, ej12_1, h⟩ := jk_at h
  have J12_1 : ∀  (ls : Array Slot) (H : Heap) (locs : List Loc), lv_has ls 1 [(0, .int x0)] → Wd D A s (wX10_isTurned cB cI cZ av) H locs → j12_1 = res → W p l e (rmK 0 0) s m ([.int x0] : List Value).toArray below meth c H locs 0 0 (MQ below (QG D (tyL cB cI cZ) A (fun res : Int32 => some (.int res)) (fun res : Int32 => (wX10_isTurned cB cI cZ av)) res) ([.int x0] : List Value).toArray s 0 0 A) (F0 m 12 ls []) := by
    intro  ls H locs hl hw h
    have h := k0_at ej12_1 h
    refine lv_iload_n (pc := 12) hx hb dX10_isTurned_12 rfl (lv_at hl 0 rfl) ?_
    refine lv_bipush (pc := 13) (v := 27) hx hb dX10_isTurned_13 (by decide) ?_
    refine lv_icmp_le (pc := 15) (tgt := 22) hx hb dX10_isTurned_15 (by decide) (fun hc_2 => ?_) (fun hc_2 => ?_)
    · have h := ift hc_2 h
      refine lv_iconst (pc := 22) (v := 0) hx hb dX10_isTurned_22 (by decide) ?_
      exact x_zret (pc := 23) (v := 0) C h rfl rfl hw dX10_isTurned_23
    · have h := iff' hc_2 h
      refine lv_iconst (pc := 18) (v := 1) hx hb dX10_isTurned_18 (by decide) ?_
      refine lv_goto (pc := 19) (tgt := 23) hx hb dX10_isTurned_19 (by decide) ?_
      exact x_zret (pc := 23) (v := 1) C h rfl rfl hw dX10_isTurned_23
  refine lv_icmp_le (pc := 3) (tgt := 12) hx hb dX10_isTurned_3 (by decide) (fun hc_3 => ?_) (fun hc_3 => ?_)
  · have h := ift hc_3 h
    exact J12_1  ls _ _ (lv_sub hl [0] rfl) hw h
  · have h := iff' hc_3 h
    refine lv_iload_n (pc := 6) hx hb dX10_isTurned_6 rfl (lv_at hl 0 rfl) ?_
    refine lv_bipush (pc := 7) (v := 16) hx hb dX10_isTurned_7 (by decide) ?_
    refine lv_icmp_lt (pc := 9) (tgt := 18) hx hb dX10_isTurned_9 (by decide) (fun hc_4 => ?_) (fun hc_4 => ?_)
    · have h := ift hc_4 h
      refine lv_iconst (pc := 18) (v := 1) hx hb dX10_isTurned_18 (by decide) ?_
      refine lv_goto (pc := 19) (tgt := 23) hx hb dX10_isTurned_19 (by decide) ?_
      exact x_zret (pc := 23) (v := 1) C h rfl rfl hw dX10_isTurned_23
    · have h := iff' hc_4 h
      exact J12_1  ls _ _ (lv_sub hl [0] rfl) hw h
def wX10_discByte (cB cI cZ : ClassId) (av : Nat → Nat) (a_this : Nat) (v_thrown : Int32) (v_size : Int32) (v_begins : Int32) (v_entries : Int32) (v_length : Int32) (v_pressed : Int32) (v_streamFrames : Int32) (v_zeros : Int32) (v_level : Int32) (v_sum : Int32) (v_tail : Int32) (v_isPlayed : Int32) (v_found : Int32) (v_strange : Int32) (v_innerFails : Int32) (v_outerFails : Int32) (v_mostMarks : Int32) (v_unsure : Int32) (v_may : Int32) (v_mocks : Int32) (v_sumThen : Int32) (v_inners : Nat → Int32) : va_W := [oX10 a_this av v_thrown v_size v_begins v_entries v_length v_pressed v_streamFrames v_zeros v_level v_sum v_tail v_isPlayed v_found v_strange v_innerFails v_outerFails v_mostMarks v_unsure v_may v_mocks v_sumThen, ((av 28), .inl (cI, 20480, .inl v_inners))]
def fX10_discByte (v_inners : Nat → Int32) (x1 : Int32) (x2 : Int32) : Option (Int32) := jk (fun (t_1 : Int32) => jk (fun (t_3 : Int32) => nt1 (fX10_isTurned x2) fun r_5 => if r_5 = 0 then some t_3 else some ((255 : Int32) - t_3)) fun j33_4 => if 0 ≤ t_1 then og (ixb (((32 : Int32) * t_1) + x2) 20480) (j33_4 (v_inners (Int32.toNatClampNeg (((32 : Int32) * t_1) + x2)))) else j33_4 0) fun j13_2 => if (x2 - x2 / (2 : Int32) * (2 : Int32)) = 0 then j13_2 (x1 - (1 : Int32)) else j13_2 x1
set_option maxHeartbeats 4000000 in
set_option maxRecDepth 100000 in
theorem ct_X10_discByte (l : Launch) (D : va_G) (cB cI cZ : ClassId) (tw : Nat) (av : Nat → Nat) (a_this : Nat) (v_thrown : Int32) (v_size : Int32) (v_begins : Int32) (v_entries : Int32) (v_length : Int32) (v_pressed : Int32) (v_streamFrames : Int32) (v_zeros : Int32) (v_level : Int32) (v_sum : Int32) (v_tail : Int32) (v_isPlayed : Int32) (v_found : Int32) (v_strange : Int32) (v_innerFails : Int32) (v_outerFails : Int32) (v_mostMarks : Int32) (v_unsure : Int32) (v_may : Int32) (v_mocks : Int32) (v_sumThen : Int32) (v_inners : Nat → Int32) (x1 : Int32) (x2 : Int32) (res : Int32) (h : fX10_discByte v_inners x1 x2 = some res) : Ctr l yX10_discByte cX10_discByte 5 (some .int) (rmK 1 20) D (tyL cB cI cZ) tw [.ref a_this, .int x1, .int x2] (wX10_discByte cB cI cZ av a_this v_thrown v_size v_begins v_entries v_length v_pressed v_streamFrames v_zeros v_level v_sum v_tail v_isPlayed v_found v_strange v_innerFails v_outerFails v_mostMarks v_unsure v_may v_mocks v_sumThen v_inners) (fun res : Int32 => some (.int res)) (fun res : Int32 => (wX10_discByte cB cI cZ av a_this v_thrown v_size v_begins v_entries v_length v_pressed v_streamFrames v_zeros v_level v_sum v_tail v_isPlayed v_found v_strange v_innerFails v_outerFails v_mostMarks v_unsure v_may v_mocks v_sumThen v_inners)) res := by
  refine ctr_of RX10 (by decide) rfl (Nat.le_of_ble_eq_true rfl) ?_
  intro p e s m below meth c A C hw ls hl
  have hx := C.1
  have hb := C.2.1
  have hl : lv_has ls 5 [(0, .ref a_this), (1, .int x1), (2, .int x2)] := hl
  unfold fX10_discByte at h
  refine lv_iload_n (pc := 0) hx hb dX10_discByte_0 rfl (lv_at hl 2 rfl) ?_
  refine lv_iconst (pc := 1) (v := 2) hx hb dX10_discByte_1 (by decide) ?_
  refine lv_irem (pc := 2) hx hb dX10_discByte_2 (by decide) ?_
  obtain ⟨j13_2, ej13_2, h⟩ := jk_at h
  have J13_2 : ∀ (t_1 : Int32) (ls : Array Slot) (H : Heap) (locs : List Loc), lv_has ls 5 [(0, .ref a_this), (2, .int x2)] → Wd D A s (wX10_discByte cB cI cZ av a_this v_thrown v_size v_begins v_entries v_length v_pressed v_streamFrames v_zeros v_level v_sum v_tail v_isPlayed v_found v_strange v_innerFails v_outerFails v_mostMarks v_unsure v_may v_mocks v_sumThen v_inners) H locs → j13_2 t_1 = some res → W p l e (rmK 1 20) s m ([.ref a_this, .int x1, .int x2] : List Value).toArray below meth c H locs 0 0 (MQ below (QG D (tyL cB cI cZ) A (fun res : Int32 => some (.int res)) (fun res : Int32 => (wX10_discByte cB cI cZ av a_this v_thrown v_size v_begins v_entries v_length v_pressed v_streamFrames v_zeros v_level v_sum v_tail v_isPlayed v_found v_strange v_innerFails v_outerFails v_mostMarks v_unsure v_may v_mocks v_sumThen v_inners)) res) ([.ref a_this, .int x1, .int x2] : List Value).toArray s 0 0 A) (F0 m 13 ls [.int t_1]) := by
    intro t_1 ls H locs hl hw h
    have h := k1_at ej13_2 h
    refine lv_istore_n (pc := 13) (lv' := [(3, .int t_1), (0, .ref a_this), (2, .int x2)]) hx hb dX10_discByte_13 rfl hl (by decide) rfl (fun ls hl => ?_)
    refine lv_iload_n (pc := 14) hx hb dX10_discByte_14 rfl (lv_at hl 0 rfl) ?_
    obtain ⟨j33_4, ej33_4, h⟩ := jk_at h
    have J33_4 : ∀ (t_3 : Int32) (ls : Array Slot) (H : Heap) (locs : List Loc), lv_has ls 5 [(2, .int x2)] → Wd D A s (wX10_discByte cB cI cZ av a_this v_thrown v_size v_begins v_entries v_length v_pressed v_streamFrames v_zeros v_level v_sum v_tail v_isPlayed v_found v_strange v_innerFails v_outerFails v_mostMarks v_unsure v_may v_mocks v_sumThen v_inners) H locs → j33_4 t_3 = some res → W p l e (rmK 1 20) s m ([.ref a_this, .int x1, .int x2] : List Value).toArray below meth c H locs 0 0 (MQ below (QG D (tyL cB cI cZ) A (fun res : Int32 => some (.int res)) (fun res : Int32 => (wX10_discByte cB cI cZ av a_this v_thrown v_size v_begins v_entries v_length v_pressed v_streamFrames v_zeros v_level v_sum v_tail v_isPlayed v_found v_strange v_innerFails v_outerFails v_mostMarks v_unsure v_may v_mocks v_sumThen v_inners)) res) ([.ref a_this, .int x1, .int x2] : List Value).toArray s 0 0 A) (F0 m 33 ls [.int t_3]) := by
      intro t_3 ls H locs hl hw h
      have h := k1_at ej33_4 h
      refine lv_istore (pc := 33) (lv' := [(4, .int t_3), (2, .int x2)]) hx hb dX10_discByte_33 hl (by decide) rfl (fun ls hl => ?_)
      refine lv_iload_n (pc := 35) hx hb dX10_discByte_35 rfl (lv_at hl 1 rfl) ?_
      obtain ⟨r_5, hq_6, h⟩ := nt1_at h
      refine x_callS (pc := 36) (rest := []) (stk := [.int r_5]) (wX10_discByte cB cI cZ av a_this v_thrown v_size v_begins v_entries v_length v_pressed v_streamFrames v_zeros v_level v_sum v_tail v_isPlayed v_found v_strange v_innerFails v_outerFails v_mostMarks v_unsure v_may v_mocks v_sumThen v_inners) C hw (ct_X10_isTurned l D cB cI cZ tw av x2 r_5 hq_6.symm) cal_X10_isTurned tw_1330 [] [0, 1] 2 [oX10 a_this av v_thrown v_size v_begins v_entries v_length v_pressed v_streamFrames v_zeros v_level v_sum v_tail v_isPlayed v_found v_strange v_innerFails v_outerFails v_mostMarks v_unsure v_may v_mocks v_sumThen, ((av 28), .inl (cI, 20480, .inl v_inners))] rfl rfl rfl rfl rfl rfl rfl rfl rfl rfl rfl (Nat.le_of_ble_eq_true rfl) hl.1 ⟨Nat.le_of_ble_eq_true rfl, Nat.le_of_ble_eq_true rfl⟩ ⟨Nat.zero_le _, Nat.zero_le _⟩ dX10_discByte_36 (fun H locs hw => ?_)
      refine lv_if_eq (pc := 39) (tgt := 51) hx hb dX10_discByte_39 (by decide) (fun hc_7 => ?_) (fun hc_7 => ?_)
      · have h := ift hc_7 h
        refine lv_iload (pc := 51) hx hb dX10_discByte_51 (lv_at hl 0 rfl) ?_
        exact x_iret (pc := 53) (v := t_3) C (Option.some.inj h) rfl hw dX10_discByte_53
      · have h := iff' hc_7 h
        refine lv_sipush (pc := 42) (v := 255) hx hb dX10_discByte_42 (by decide) ?_
        refine lv_iload (pc := 45) hx hb dX10_discByte_45 (lv_at hl 0 rfl) ?_
        refine lv_isub (pc := 47) hx hb dX10_discByte_47 ?_
        refine lv_goto (pc := 48) (tgt := 53) hx hb dX10_discByte_48 (by decide) ?_
        exact x_iret (pc := 53) (v := ((255 : Int32) - t_3)) C (Option.some.inj h) rfl hw dX10_discByte_53
    refine lv_if_ge (pc := 15) (tgt := 22) hx hb dX10_discByte_15 (by decide) (fun hc_8 => ?_) (fun hc_8 => ?_)
    · have h := ift hc_8 h
      refine lv_aload_n (pc := 22) hx hb dX10_discByte_22 rfl (lv_at hl 1 rfl) ?_
      refine gf_X10_64 (pc := 23) C hw 0 rfl rfl dX10_discByte_23 ?_
      refine lv_bipush (pc := 26) (v := 32) hx hb dX10_discByte_26 (by decide) ?_
      refine lv_iload_n (pc := 28) hx hb dX10_discByte_28 rfl (lv_at hl 0 rfl) ?_
      refine lv_imul (pc := 29) hx hb dX10_discByte_29 ?_
      refine lv_iload_n (pc := 30) hx hb dX10_discByte_30 rfl (lv_at hl 2 rfl) ?_
      refine lv_iadd (pc := 31) hx hb dX10_discByte_31 ?_
      obtain ⟨hi_9, h⟩ := og_at h
      refine x_iald (pc := 32) C hw 1 rfl hi_9 dX10_discByte_32 ?_
      exact J33_4 (v_inners (Int32.toNatClampNeg (((32 : Int32) * t_1) + x2))) ls _ _ (lv_sub hl [2] rfl) hw h
    · have h := iff' hc_8 h
      refine lv_iconst (pc := 18) (v := 0) hx hb dX10_discByte_18 (by decide) ?_
      refine lv_goto (pc := 19) (tgt := 33) hx hb dX10_discByte_19 (by decide) ?_
      exact J33_4 0 ls _ _ (lv_sub hl [2] rfl) hw h
  refine lv_if_ne (pc := 3) (tgt := 12) hx hb dX10_discByte_3 (by decide) (fun hc_10 => ?_) (fun hc_10 => ?_)
  · have h := iff' hc_10 h
    refine lv_iload_n (pc := 12) hx hb dX10_discByte_12 rfl (lv_at hl 1 rfl) ?_
    exact J13_2 x1 ls _ _ (lv_sub hl [0, 2] rfl) hw h
  · have h := ift hc_10 h
    refine lv_iload_n (pc := 6) hx hb dX10_discByte_6 rfl (lv_at hl 1 rfl) ?_
    refine lv_iconst (pc := 7) (v := 1) hx hb dX10_discByte_7 (by decide) ?_
    refine lv_isub (pc := 8) hx hb dX10_discByte_8 ?_
    refine lv_goto (pc := 9) (tgt := 13) hx hb dX10_discByte_9 (by decide) ?_
    exact J13_2 (x1 - (1 : Int32)) ls _ _ (lv_sub hl [0, 2] rfl) hw h
def wX10_layBits (cB cI cZ : ClassId) (av : Nat → Nat) (a_this : Nat) (v_thrown : Int32) (v_size : Int32) (v_begins : Int32) (v_entries : Int32) (v_length : Int32) (v_pressed : Int32) (v_streamFrames : Int32) (v_zeros : Int32) (v_level : Int32) (v_sum : Int32) (v_tail : Int32) (v_isPlayed : Int32) (v_found : Int32) (v_strange : Int32) (v_innerFails : Int32) (v_outerFails : Int32) (v_mostMarks : Int32) (v_unsure : Int32) (v_may : Int32) (v_mocks : Int32) (v_sumThen : Int32) (v_bits : Nat → Int32) : va_W := [oX10 a_this av v_thrown v_size v_begins v_entries v_length v_pressed v_streamFrames v_zeros v_level v_sum v_tail v_isPlayed v_found v_strange v_innerFails v_outerFails v_mostMarks v_unsure v_may v_mocks v_sumThen, ((av 13), .inl (cB, 360000, .inl v_bits))]
def fX10_layBits_L4 (x1 : Int32) : Nat → Int32 → Int32 → Int32 → Int32 → Int32 → Int32 → (Nat → Int32) → Option (Int32 × Int32 × Int32 × Int32 × Int32 × (Nat → Int32))
  | 0, _, _, _, _, _, _, _ => none
  | F4_9 + 1, x3_2, v_length_3, v_zeros_4, v_level_5, v_sum_6, v_tail_7, v_bits_8 => if x3_2 < 0 then some (v_length_3, v_level_5, v_sum_6, v_tail_7, v_zeros_4, v_bits_8) else nm (((x1 >>> (x3_2 &&& 31) : Int32) &&& (1 : Int32)) : Int32) fun x4_11 => og (ixb v_length_3 360000) (nm (upd v_bits_8 (Int32.toNatClampNeg v_length_3) (vp_nar .byte (Int8.toInt32 (Int32.toInt8 x4_11)))) fun v_bits_13 => nm ((v_length_3 + (1 : Int32)) : Int32) fun v_length_14 => jk (fun (t_15 : Int32) => jk (fun (t_17 : Int32) => nm ((v_sum_6 + t_17) : Int32) fun v_sum_19 => nm ((((v_tail_7 <<< ((1 : Int32) &&& 31) : Int32) ||| x4_11) &&& (16777215 : Int32)) : Int32) fun v_tail_20 => nm (x3_2 + (-1) : Int32) fun x3_21 => fX10_layBits_L4 x1 F4_9 x3_21 v_length_14 t_15 t_17 v_sum_19 v_tail_20 v_bits_13) fun j76_18 => if x4_11 = (1 : Int32) then j76_18 (-v_level_5) else j76_18 v_level_5) fun j54_16 => if x4_11 = (1 : Int32) then j54_16 0 else j54_16 (v_zeros_4 + (1 : Int32)))
def fX10_layBits (v_length : Int32) (v_level : Int32) (v_sum : Int32) (v_tail : Int32) (v_zeros : Int32) (v_bits : Nat → Int32) (x1 : Int32) (x2 : Int32) : Option (Int32 × Int32 × Int32 × Int32 × Int32 × (Nat → Int32)) := nm ((x2 - (1 : Int32)) : Int32) fun x3_1 => fX10_layBits_L4 x1 FU x3_1 v_length v_zeros v_level v_sum v_tail v_bits
set_option maxHeartbeats 4000000 in
set_option maxRecDepth 100000 in
theorem ct_X10_layBits (l : Launch) (D : va_G) (cB cI cZ : ClassId) (tw : Nat) (av : Nat → Nat) (a_this : Nat) (v_thrown : Int32) (v_size : Int32) (v_begins : Int32) (v_entries : Int32) (v_length : Int32) (v_pressed : Int32) (v_streamFrames : Int32) (v_zeros : Int32) (v_level : Int32) (v_sum : Int32) (v_tail : Int32) (v_isPlayed : Int32) (v_found : Int32) (v_strange : Int32) (v_innerFails : Int32) (v_outerFails : Int32) (v_mostMarks : Int32) (v_unsure : Int32) (v_may : Int32) (v_mocks : Int32) (v_sumThen : Int32) (v_bits : Nat → Int32) (x1 : Int32) (x2 : Int32) (res : Int32 × Int32 × Int32 × Int32 × Int32 × (Nat → Int32)) (h : fX10_layBits v_length v_level v_sum v_tail v_zeros v_bits x1 x2 = some res) : Ctr l yX10_layBits cX10_layBits 5 none (rmK 0 0) D (tyL cB cI cZ) tw [.ref a_this, .int x1, .int x2] (wX10_layBits cB cI cZ av a_this v_thrown v_size v_begins v_entries v_length v_pressed v_streamFrames v_zeros v_level v_sum v_tail v_isPlayed v_found v_strange v_innerFails v_outerFails v_mostMarks v_unsure v_may v_mocks v_sumThen v_bits) (fun _ : Int32 × Int32 × Int32 × Int32 × Int32 × (Nat → Int32) => none) (fun res : Int32 × Int32 × Int32 × Int32 × Int32 × (Nat → Int32) => (wX10_layBits cB cI cZ av a_this v_thrown v_size v_begins v_entries (res.1) v_pressed v_streamFrames (res.2.2.2.2.1) (res.2.1) (res.2.2.1) (res.2.2.2.1) v_isPlayed v_found v_strange v_innerFails v_outerFails v_mostMarks v_unsure v_may v_mocks v_sumThen (res.2.2.2.2.2))) res := by
  refine ctr_of RX10 (by decide) rfl (Nat.le_of_ble_eq_true rfl) ?_
  intro p e s m below meth c A C hw ls hl
  have hx := C.1
  have hb := C.2.1
  have hl : lv_has ls 5 [(0, .ref a_this), (1, .int x1), (2, .int x2)] := hl
  unfold fX10_layBits at h
  refine lv_iload_n (pc := 0) hx hb dX10_layBits_0 rfl (lv_at hl 2 rfl) ?_
  refine lv_iconst (pc := 1) (v := 1) hx hb dX10_layBits_1 (by decide) ?_
  refine lv_isub (pc := 2) hx hb dX10_layBits_2 ?_
  refine lv_topi (pc := 3) (fun x3_1 ex3_1 => ?_)
  have h := nm_at ex3_1 h
  refine lv_istore_n (pc := 3) (lv' := [(3, .int x3_1), (0, .ref a_this), (1, .int x1), (2, .int x2)]) hx hb dX10_layBits_3 rfl hl (by decide) rfl (fun ls hl => ?_)
  have Lih4_9 : ∀ (F : Nat) (x3_2 : Int32) (v_length_3 : Int32) (v_zeros_4 : Int32) (v_level_5 : Int32) (v_sum_6 : Int32) (v_tail_7 : Int32) (v_bits_8 : Nat → Int32) (ls : Array Slot) (H : Heap) (locs : List Loc), lv_has ls 5 [(3, .int x3_2), (0, .ref a_this), (1, .int x1)] → Wd D A s (wX10_layBits cB cI cZ av a_this v_thrown v_size v_begins v_entries v_length_3 v_pressed v_streamFrames v_zeros_4 v_level_5 v_sum_6 v_tail_7 v_isPlayed v_found v_strange v_innerFails v_outerFails v_mostMarks v_unsure v_may v_mocks v_sumThen v_bits_8) H locs → fX10_layBits_L4 x1 F x3_2 v_length_3 v_zeros_4 v_level_5 v_sum_6 v_tail_7 v_bits_8 = some res → W p l e (rmK 0 0) s m ([.ref a_this, .int x1, .int x2] : List Value).toArray below meth c H locs 0 0 (MQ below (QG D (tyL cB cI cZ) A (fun _ : Int32 × Int32 × Int32 × Int32 × Int32 × (Nat → Int32) => none) (fun res : Int32 × Int32 × Int32 × Int32 × Int32 × (Nat → Int32) => (wX10_layBits cB cI cZ av a_this v_thrown v_size v_begins v_entries (res.1) v_pressed v_streamFrames (res.2.2.2.2.1) (res.2.1) (res.2.2.1) (res.2.2.2.1) v_isPlayed v_found v_strange v_innerFails v_outerFails v_mostMarks v_unsure v_may v_mocks v_sumThen (res.2.2.2.2.2))) res) ([.ref a_this, .int x1, .int x2] : List Value).toArray s 0 0 A) (F0 m 4 ls []) := by
    intro F
    induction F with
    | zero => intro x3_2 v_length_3 v_zeros_4 v_level_5 v_sum_6 v_tail_7 v_bits_8 ls H locs hl hw h; rw [fX10_layBits_L4.eq_1] at h; cases h
    | succ F4_9 ih4_9 =>
      intro x3_2 v_length_3 v_zeros_4 v_level_5 v_sum_6 v_tail_7 v_bits_8 ls H locs hl hw h
      rw [fX10_layBits_L4.eq_2] at h
      refine lv_iload_n (pc := 4) hx hb dX10_layBits_4 rfl (lv_at hl 0 rfl) ?_
      refine lv_if_lt (pc := 5) (tgt := 114) hx hb dX10_layBits_5 (by decide) (fun hc_10 => ?_) (fun hc_10 => ?_)
      · have h := ift hc_10 h
        exact x_vret (pc := 114) (v := (v_length_3, v_level_5, v_sum_6, v_tail_7, v_zeros_4, v_bits_8)) C (Option.some.inj h) rfl hw dX10_layBits_114
      · have h := iff' hc_10 h
        refine lv_iload_n (pc := 8) hx hb dX10_layBits_8 rfl (lv_at hl 2 rfl) ?_
        refine lv_iload_n (pc := 9) hx hb dX10_layBits_9 rfl (lv_at hl 0 rfl) ?_
        refine lv_ishr (pc := 10) hx hb dX10_layBits_10 ?_
        refine lv_iconst (pc := 11) (v := 1) hx hb dX10_layBits_11 (by decide) ?_
        refine lv_iand (pc := 12) hx hb dX10_layBits_12 ?_
        refine lv_topi (pc := 13) (fun x4_11 ex4_11 => ?_)
        have h := nm_at ex4_11 h
        refine lv_istore (pc := 13) (lv' := [(4, .int x4_11), (3, .int x3_2), (0, .ref a_this), (1, .int x1)]) hx hb dX10_layBits_13 hl (by decide) rfl (fun ls hl => ?_)
        refine lv_aload_n (pc := 15) hx hb dX10_layBits_15 rfl (lv_at hl 2 rfl) ?_
        refine gf_X10_39 (pc := 16) C hw 0 rfl rfl dX10_layBits_16 ?_
        refine lv_aload_n (pc := 19) hx hb dX10_layBits_19 rfl (lv_at hl 2 rfl) ?_
        refine gf_X10_185 (pc := 20) C hw 0 rfl rfl dX10_layBits_20 ?_
        refine lv_iload (pc := 23) hx hb dX10_layBits_23 (lv_at hl 0 rfl) ?_
        refine lv_i2b (pc := 25) hx hb dX10_layBits_25 rfl ?_
        obtain ⟨hi_12, h⟩ := og_at h
        obtain ⟨v_bits_13, ev_bits_13⟩ : ∃ y : Nat → Int32, y = upd v_bits_8 (Int32.toNatClampNeg v_length_3) (vp_nar .byte (Int8.toInt32 (Int32.toInt8 x4_11))) := ⟨_, rfl⟩
        have h := nm_at ev_bits_13 h
        refine x_bast (pc := 26) (wX10_layBits cB cI cZ av a_this v_thrown v_size v_begins v_entries v_length_3 v_pressed v_streamFrames v_zeros_4 v_level_5 v_sum_6 v_tail_7 v_isPlayed v_found v_strange v_innerFails v_outerFails v_mostMarks v_unsure v_may v_mocks v_sumThen v_bits_13) C hw 1 rfl hi_12 (by rw [ev_bits_13]; rfl) dX10_layBits_26 (fun H locs hw => ?_)
        refine lv_aload_n (pc := 27) hx hb dX10_layBits_27 rfl (lv_at hl 2 rfl) ?_
        refine lv_dup (pc := 28) hx hb dX10_layBits_28 rfl ?_
        refine gf_X10_185 (pc := 29) C hw 0 rfl rfl dX10_layBits_29 ?_
        refine lv_iconst (pc := 32) (v := 1) hx hb dX10_layBits_32 (by decide) ?_
        refine lv_iadd (pc := 33) hx hb dX10_layBits_33 ?_
        refine lv_topi (pc := 34) (fun v_length_14 ev_length_14 => ?_)
        have h := nm_at ev_length_14 h
        refine pf_X10_185 (pc := 34) (wX10_layBits cB cI cZ av a_this v_thrown v_size v_begins v_entries v_length_14 v_pressed v_streamFrames v_zeros_4 v_level_5 v_sum_6 v_tail_7 v_isPlayed v_found v_strange v_innerFails v_outerFails v_mostMarks v_unsure v_may v_mocks v_sumThen v_bits_13) C hw 0 rfl rfl rfl rfl (Nat.le_of_ble_eq_true rfl) dX10_layBits_34 (fun H locs hw => ?_)
        refine lv_aload_n (pc := 37) hx hb dX10_layBits_37 rfl (lv_at hl 2 rfl) ?_
        refine lv_iload (pc := 38) hx hb dX10_layBits_38 (lv_at hl 0 rfl) ?_
        refine lv_iconst (pc := 40) (v := 1) hx hb dX10_layBits_40 (by decide) ?_
        obtain ⟨j54_16, ej54_16, h⟩ := jk_at h
        have J54_16 : ∀ (t_15 : Int32) (ls : Array Slot) (H : Heap) (locs : List Loc), lv_has ls 5 [(4, .int x4_11), (3, .int x3_2), (0, .ref a_this), (1, .int x1)] → Wd D A s (wX10_layBits cB cI cZ av a_this v_thrown v_size v_begins v_entries v_length_14 v_pressed v_streamFrames v_zeros_4 v_level_5 v_sum_6 v_tail_7 v_isPlayed v_found v_strange v_innerFails v_outerFails v_mostMarks v_unsure v_may v_mocks v_sumThen v_bits_13) H locs → j54_16 t_15 = some res → W p l e (rmK 0 0) s m ([.ref a_this, .int x1, .int x2] : List Value).toArray below meth c H locs 0 0 (MQ below (QG D (tyL cB cI cZ) A (fun _ : Int32 × Int32 × Int32 × Int32 × Int32 × (Nat → Int32) => none) (fun res : Int32 × Int32 × Int32 × Int32 × Int32 × (Nat → Int32) => (wX10_layBits cB cI cZ av a_this v_thrown v_size v_begins v_entries (res.1) v_pressed v_streamFrames (res.2.2.2.2.1) (res.2.1) (res.2.2.1) (res.2.2.2.1) v_isPlayed v_found v_strange v_innerFails v_outerFails v_mostMarks v_unsure v_may v_mocks v_sumThen (res.2.2.2.2.2))) res) ([.ref a_this, .int x1, .int x2] : List Value).toArray s 0 0 A) (F0 m 54 ls [.int t_15, .ref a_this]) := by
          intro t_15 ls H locs hl hw h
          have h := k1_at ej54_16 h
          refine pf_X10_188 (pc := 54) (wX10_layBits cB cI cZ av a_this v_thrown v_size v_begins v_entries v_length_14 v_pressed v_streamFrames t_15 v_level_5 v_sum_6 v_tail_7 v_isPlayed v_found v_strange v_innerFails v_outerFails v_mostMarks v_unsure v_may v_mocks v_sumThen v_bits_13) C hw 0 rfl rfl rfl rfl (Nat.le_of_ble_eq_true rfl) dX10_layBits_54 (fun H locs hw => ?_)
          refine lv_aload_n (pc := 57) hx hb dX10_layBits_57 rfl (lv_at hl 2 rfl) ?_
          refine lv_iload (pc := 58) hx hb dX10_layBits_58 (lv_at hl 0 rfl) ?_
          refine lv_iconst (pc := 60) (v := 1) hx hb dX10_layBits_60 (by decide) ?_
          obtain ⟨j76_18, ej76_18, h⟩ := jk_at h
          have J76_18 : ∀ (t_17 : Int32) (ls : Array Slot) (H : Heap) (locs : List Loc), lv_has ls 5 [(4, .int x4_11), (3, .int x3_2), (0, .ref a_this), (1, .int x1)] → Wd D A s (wX10_layBits cB cI cZ av a_this v_thrown v_size v_begins v_entries v_length_14 v_pressed v_streamFrames t_15 v_level_5 v_sum_6 v_tail_7 v_isPlayed v_found v_strange v_innerFails v_outerFails v_mostMarks v_unsure v_may v_mocks v_sumThen v_bits_13) H locs → j76_18 t_17 = some res → W p l e (rmK 0 0) s m ([.ref a_this, .int x1, .int x2] : List Value).toArray below meth c H locs 0 0 (MQ below (QG D (tyL cB cI cZ) A (fun _ : Int32 × Int32 × Int32 × Int32 × Int32 × (Nat → Int32) => none) (fun res : Int32 × Int32 × Int32 × Int32 × Int32 × (Nat → Int32) => (wX10_layBits cB cI cZ av a_this v_thrown v_size v_begins v_entries (res.1) v_pressed v_streamFrames (res.2.2.2.2.1) (res.2.1) (res.2.2.1) (res.2.2.2.1) v_isPlayed v_found v_strange v_innerFails v_outerFails v_mostMarks v_unsure v_may v_mocks v_sumThen (res.2.2.2.2.2))) res) ([.ref a_this, .int x1, .int x2] : List Value).toArray s 0 0 A) (F0 m 76 ls [.int t_17, .ref a_this]) := by
            intro t_17 ls H locs hl hw h
            have h := k1_at ej76_18 h
            refine pf_X10_191 (pc := 76) (wX10_layBits cB cI cZ av a_this v_thrown v_size v_begins v_entries v_length_14 v_pressed v_streamFrames t_15 t_17 v_sum_6 v_tail_7 v_isPlayed v_found v_strange v_innerFails v_outerFails v_mostMarks v_unsure v_may v_mocks v_sumThen v_bits_13) C hw 0 rfl rfl rfl rfl (Nat.le_of_ble_eq_true rfl) dX10_layBits_76 (fun H locs hw => ?_)
            refine lv_aload_n (pc := 79) hx hb dX10_layBits_79 rfl (lv_at hl 2 rfl) ?_
            refine lv_dup (pc := 80) hx hb dX10_layBits_80 rfl ?_
            refine gf_X10_194 (pc := 81) C hw 0 rfl rfl dX10_layBits_81 ?_
            refine lv_aload_n (pc := 84) hx hb dX10_layBits_84 rfl (lv_at hl 2 rfl) ?_
            refine gf_X10_191 (pc := 85) C hw 0 rfl rfl dX10_layBits_85 ?_
            refine lv_iadd (pc := 88) hx hb dX10_layBits_88 ?_
            refine lv_topi (pc := 89) (fun v_sum_19 ev_sum_19 => ?_)
            have h := nm_at ev_sum_19 h
            refine pf_X10_194 (pc := 89) (wX10_layBits cB cI cZ av a_this v_thrown v_size v_begins v_entries v_length_14 v_pressed v_streamFrames t_15 t_17 v_sum_19 v_tail_7 v_isPlayed v_found v_strange v_innerFails v_outerFails v_mostMarks v_unsure v_may v_mocks v_sumThen v_bits_13) C hw 0 rfl rfl rfl rfl (Nat.le_of_ble_eq_true rfl) dX10_layBits_89 (fun H locs hw => ?_)
            refine lv_aload_n (pc := 92) hx hb dX10_layBits_92 rfl (lv_at hl 2 rfl) ?_
            refine lv_aload_n (pc := 93) hx hb dX10_layBits_93 rfl (lv_at hl 2 rfl) ?_
            refine gf_X10_197 (pc := 94) C hw 0 rfl rfl dX10_layBits_94 ?_
            refine lv_iconst (pc := 97) (v := 1) hx hb dX10_layBits_97 (by decide) ?_
            refine lv_ishl (pc := 98) hx hb dX10_layBits_98 ?_
            refine lv_iload (pc := 99) hx hb dX10_layBits_99 (lv_at hl 0 rfl) ?_
            refine lv_ior (pc := 101) hx hb dX10_layBits_101 ?_
            refine lv_ldc (pc := 102) (own := RX10) (v := 16777215) hx hb C.2.2.2.1 (C.2.2.2.2.1 _ tw_1277) dX10_layBits_102 ?_
            refine lv_iand (pc := 104) hx hb dX10_layBits_104 ?_
            refine lv_topi (pc := 105) (fun v_tail_20 ev_tail_20 => ?_)
            have h := nm_at ev_tail_20 h
            refine pf_X10_197 (pc := 105) (wX10_layBits cB cI cZ av a_this v_thrown v_size v_begins v_entries v_length_14 v_pressed v_streamFrames t_15 t_17 v_sum_19 v_tail_20 v_isPlayed v_found v_strange v_innerFails v_outerFails v_mostMarks v_unsure v_may v_mocks v_sumThen v_bits_13) C hw 0 rfl rfl rfl rfl (Nat.le_of_ble_eq_true rfl) dX10_layBits_105 (fun H locs hw => ?_)
            obtain ⟨x3_21, ex3_21⟩ : ∃ y : Int32, y = x3_2 + (-1) := ⟨_, rfl⟩
            have h := nm_at ex3_21 h
            refine lv_iinc (pc := 108) (v := x3_21) (lv' := [(3, .int x3_21), (4, .int x4_11), (0, .ref a_this), (1, .int x1)]) hx hb dX10_layBits_108 hl (k := 1) rfl (by rw [ex3_21]; rfl) (by decide) rfl (fun ls hl => ?_)
            refine lv_goto (pc := 111) (tgt := 4) hx hb dX10_layBits_111 (by decide) ?_
            exact ih4_9 x3_21 v_length_14 t_15 t_17 v_sum_19 v_tail_20 v_bits_13 ls _ _ (lv_sub hl [0, 2, 3] rfl) hw h
          refine lv_icmp_ne (pc := 61) (tgt := 72) hx hb dX10_layBits_61 (by decide) (fun hc_22 => ?_) (fun hc_22 => ?_)
          · have h := iff' hc_22 h
            refine lv_aload_n (pc := 72) hx hb dX10_layBits_72 rfl (lv_at hl 2 rfl) ?_
            refine gf_X10_191 (pc := 73) C hw 0 rfl rfl dX10_layBits_73 ?_
            exact J76_18 v_level_5 ls _ _ (lv_sub hl [0, 1, 2, 3] rfl) hw h
          · have h := ift hc_22 h
            refine lv_aload_n (pc := 64) hx hb dX10_layBits_64 rfl (lv_at hl 2 rfl) ?_
            refine gf_X10_191 (pc := 65) C hw 0 rfl rfl dX10_layBits_65 ?_
            refine lv_ineg (pc := 68) hx hb dX10_layBits_68 ?_
            refine lv_goto (pc := 69) (tgt := 76) hx hb dX10_layBits_69 (by decide) ?_
            exact J76_18 (-v_level_5) ls _ _ (lv_sub hl [0, 1, 2, 3] rfl) hw h
        refine lv_icmp_ne (pc := 41) (tgt := 48) hx hb dX10_layBits_41 (by decide) (fun hc_23 => ?_) (fun hc_23 => ?_)
        · have h := iff' hc_23 h
          refine lv_aload_n (pc := 48) hx hb dX10_layBits_48 rfl (lv_at hl 2 rfl) ?_
          refine gf_X10_188 (pc := 49) C hw 0 rfl rfl dX10_layBits_49 ?_
          refine lv_iconst (pc := 52) (v := 1) hx hb dX10_layBits_52 (by decide) ?_
          refine lv_iadd (pc := 53) hx hb dX10_layBits_53 ?_
          exact J54_16 (v_zeros_4 + (1 : Int32)) ls _ _ (lv_sub hl [0, 1, 2, 3] rfl) hw h
        · have h := ift hc_23 h
          refine lv_iconst (pc := 44) (v := 0) hx hb dX10_layBits_44 (by decide) ?_
          refine lv_goto (pc := 45) (tgt := 54) hx hb dX10_layBits_45 (by decide) ?_
          exact J54_16 0 ls _ _ (lv_sub hl [0, 1, 2, 3] rfl) hw h
  exact Lih4_9 FU x3_1 v_length v_zeros v_level v_sum v_tail v_bits ls _ _ (lv_sub hl [0, 1, 2] rfl) hw h
def wX10_tryJoint (cB cI cZ : ClassId) (av : Nat → Nat) (a_this : Nat) (v_thrown : Int32) (v_size : Int32) (v_begins : Int32) (v_entries : Int32) (v_length : Int32) (v_pressed : Int32) (v_streamFrames : Int32) (v_zeros : Int32) (v_level : Int32) (v_sum : Int32) (v_tail : Int32) (v_isPlayed : Int32) (v_found : Int32) (v_strange : Int32) (v_innerFails : Int32) (v_outerFails : Int32) (v_mostMarks : Int32) (v_unsure : Int32) (v_may : Int32) (v_mocks : Int32) (v_sumThen : Int32) : va_W := [oX10 a_this av v_thrown v_size v_begins v_entries v_length v_pressed v_streamFrames v_zeros v_level v_sum v_tail v_isPlayed v_found v_strange v_innerFails v_outerFails v_mostMarks v_unsure v_may v_mocks v_sumThen]
def fX10_tryJoint_L44 (x3 : Int32) (x2 : Int32) (x1 : Int32) : Nat → Int32 → Int32 → Int32 → Int32 → Int32 → Int32 → Int32 → Int32 → Option (Int32 × Int32 × Int32)
  | 0, _, _, _, _, _, _, _, _ => none
  | F44_10 + 1, x8_2, x7_3, x6_4, x5_5, x4_6, v_may_7, v_mocks_8, v_sumThen_9 => if x8_2 < 0 then some (v_may_7, v_mocks_8, v_sumThen_9) else jk (fun (t_12 : Int32) => jk (fun (x7_14 : Int32) (v_may_15 : Int32) => jk (fun (t_17 : Int32) => jk (fun (t_19 : Int32) => nm ((v_sumThen_9 + t_19) : Int32) fun v_sumThen_21 => nm ((((x6_4 <<< ((1 : Int32) &&& 31) : Int32) ||| t_12) &&& (16777215 : Int32)) : Int32) fun x6_22 => jk (fun (t_23 : Int32) => og (zb t_23) (nm (x8_2 + (-1) : Int32) fun x8_26 => fX10_tryJoint_L44 x3 x2 x1 F44_10 x8_26 x7_14 x6_22 t_19 t_17 v_may_15 t_23 v_sumThen_21)) fun j208_24 => jk (j208_24 1) fun j203_27 => if v_mocks_8 = 0 then jk (j208_24 0) fun j207_29 => if x3 = (14 : Int32) then if x6_22 = (8392706 : Int32) then j203_27 else j207_29 else j207_29 else j203_27) fun j157_20 => if t_12 = (1 : Int32) then j157_20 (-x5_5) else j157_20 x5_5) fun j141_18 => if t_12 = (1 : Int32) then j141_18 0 else j141_18 (x4_6 + (1 : Int32))) fun j127_16 => if t_12 = (1 : Int32) then if x7_3 = 0 then jk (fun (t_36 : Int32) => og (zb t_36) (jk (fun (t_39 : Int32) => j127_16 t_39 t_36) fun j125_40 => if x3 ≤ x8_2 then j125_40 0 else j125_40 1)) fun j111_37 => jk (j111_37 0) fun j110_42 => if v_may_7 = 0 then j110_42 else if x4_6 ≤ (1 : Int32) then j110_42 else if (11 : Int32) ≤ x4_6 then j110_42 else j111_37 1 else j127_16 x7_3 v_may_7 else j127_16 x7_3 v_may_7) fun j72_13 => if x8_2 < x3 then j72_13 ((x2 >>> (x8_2 &&& 31) : Int32) &&& (1 : Int32)) else j72_13 ((x1 >>> ((x8_2 - x3) &&& 31) : Int32) &&& (1 : Int32))
def fX10_tryJoint (v_level : Int32) (v_may : Int32) (v_mocks : Int32) (v_sum : Int32) (v_sumThen : Int32) (v_tail : Int32) (v_zeros : Int32) (x1 : Int32) (x2 : Int32) (x3 : Int32) : Option (Int32 × Int32 × Int32) := nm ((x3 + (2 : Int32)) : Int32) fun x8_1 => fX10_tryJoint_L44 x3 x2 x1 FU x8_1 0 v_tail v_level v_zeros 1 0 v_sum
set_option maxHeartbeats 4000000 in
set_option maxRecDepth 100000 in
theorem ct_X10_tryJoint (l : Launch) (D : va_G) (cB cI cZ : ClassId) (tw : Nat) (av : Nat → Nat) (a_this : Nat) (v_thrown : Int32) (v_size : Int32) (v_begins : Int32) (v_entries : Int32) (v_length : Int32) (v_pressed : Int32) (v_streamFrames : Int32) (v_zeros : Int32) (v_level : Int32) (v_sum : Int32) (v_tail : Int32) (v_isPlayed : Int32) (v_found : Int32) (v_strange : Int32) (v_innerFails : Int32) (v_outerFails : Int32) (v_mostMarks : Int32) (v_unsure : Int32) (v_may : Int32) (v_mocks : Int32) (v_sumThen : Int32) (x1 : Int32) (x2 : Int32) (x3 : Int32) (res : Int32 × Int32 × Int32) (h : fX10_tryJoint v_level v_may v_mocks v_sum v_sumThen v_tail v_zeros x1 x2 x3 = some res) : Ctr l yX10_tryJoint cX10_tryJoint 10 none (rmK 0 0) D (tyL cB cI cZ) tw [.ref a_this, .int x1, .int x2, .int x3] (wX10_tryJoint cB cI cZ av a_this v_thrown v_size v_begins v_entries v_length v_pressed v_streamFrames v_zeros v_level v_sum v_tail v_isPlayed v_found v_strange v_innerFails v_outerFails v_mostMarks v_unsure v_may v_mocks v_sumThen) (fun _ : Int32 × Int32 × Int32 => none) (fun res : Int32 × Int32 × Int32 => (wX10_tryJoint cB cI cZ av a_this v_thrown v_size v_begins v_entries v_length v_pressed v_streamFrames v_zeros v_level v_sum v_tail v_isPlayed v_found v_strange v_innerFails v_outerFails v_mostMarks v_unsure (res.1) (res.2.1) (res.2.2))) res := by
  refine ctr_of RX10 (by decide) rfl (Nat.le_of_ble_eq_true rfl) ?_
  intro p e s m below meth c A C hw ls hl
  have hx := C.1
  have hb := C.2.1
  have hl : lv_has ls 10 [(0, .ref a_this), (1, .int x1), (2, .int x2), (3, .int x3)] := hl
  unfold fX10_tryJoint at h
  refine lv_aload_n (pc := 0) hx hb dX10_tryJoint_0 rfl (lv_at hl 0 rfl) ?_
  refine gf_X10_188 (pc := 1) C hw 0 rfl rfl dX10_tryJoint_1 ?_
  refine lv_istore (pc := 4) (lv' := [(4, .int v_zeros), (0, .ref a_this), (1, .int x1), (2, .int x2), (3, .int x3)]) hx hb dX10_tryJoint_4 hl (by decide) rfl (fun ls hl => ?_)
  refine lv_aload_n (pc := 6) hx hb dX10_tryJoint_6 rfl (lv_at hl 1 rfl) ?_
  refine gf_X10_191 (pc := 7) C hw 0 rfl rfl dX10_tryJoint_7 ?_
  refine lv_istore (pc := 10) (lv' := [(5, .int v_level), (4, .int v_zeros), (0, .ref a_this), (1, .int x1), (2, .int x2), (3, .int x3)]) hx hb dX10_tryJoint_10 hl (by decide) rfl (fun ls hl => ?_)
  refine lv_aload_n (pc := 12) hx hb dX10_tryJoint_12 rfl (lv_at hl 2 rfl) ?_
  refine gf_X10_197 (pc := 13) C hw 0 rfl rfl dX10_tryJoint_13 ?_
  refine lv_istore (pc := 16) (lv' := [(6, .int v_tail), (5, .int v_level), (4, .int v_zeros), (0, .ref a_this), (1, .int x1), (2, .int x2), (3, .int x3)]) hx hb dX10_tryJoint_16 hl (by decide) rfl (fun ls hl => ?_)
  refine lv_iconst (pc := 18) (v := 0) hx hb dX10_tryJoint_18 (by decide) ?_
  refine lv_istore (pc := 19) (lv' := [(7, .int 0), (6, .int v_tail), (5, .int v_level), (4, .int v_zeros), (0, .ref a_this), (1, .int x1), (2, .int x2), (3, .int x3)]) hx hb dX10_tryJoint_19 hl (by decide) rfl (fun ls hl => ?_)
  refine lv_aload_n (pc := 21) hx hb dX10_tryJoint_21 rfl (lv_at hl 4 rfl) ?_
  refine lv_iconst (pc := 22) (v := 1) hx hb dX10_tryJoint_22 (by decide) ?_
  refine pf_X10_201 (pc := 23) (wX10_tryJoint cB cI cZ av a_this v_thrown v_size v_begins v_entries v_length v_pressed v_streamFrames v_zeros v_level v_sum v_tail v_isPlayed v_found v_strange v_innerFails v_outerFails v_mostMarks v_unsure 1 v_mocks v_sumThen) C hw 0 rfl rfl rfl rfl (Nat.le_of_ble_eq_true rfl) dX10_tryJoint_23 (fun H locs hw => ?_)
  refine lv_aload_n (pc := 26) hx hb dX10_tryJoint_26 rfl (lv_at hl 4 rfl) ?_
  refine lv_iconst (pc := 27) (v := 0) hx hb dX10_tryJoint_27 (by decide) ?_
  refine pf_X10_205 (pc := 28) (wX10_tryJoint cB cI cZ av a_this v_thrown v_size v_begins v_entries v_length v_pressed v_streamFrames v_zeros v_level v_sum v_tail v_isPlayed v_found v_strange v_innerFails v_outerFails v_mostMarks v_unsure 1 0 v_sumThen) C hw 0 rfl rfl rfl rfl (Nat.le_of_ble_eq_true rfl) dX10_tryJoint_28 (fun H locs hw => ?_)
  refine lv_aload_n (pc := 31) hx hb dX10_tryJoint_31 rfl (lv_at hl 4 rfl) ?_
  refine lv_aload_n (pc := 32) hx hb dX10_tryJoint_32 rfl (lv_at hl 4 rfl) ?_
  refine gf_X10_194 (pc := 33) C hw 0 rfl rfl dX10_tryJoint_33 ?_
  refine pf_X10_208 (pc := 36) (wX10_tryJoint cB cI cZ av a_this v_thrown v_size v_begins v_entries v_length v_pressed v_streamFrames v_zeros v_level v_sum v_tail v_isPlayed v_found v_strange v_innerFails v_outerFails v_mostMarks v_unsure 1 0 v_sum) C hw 0 rfl rfl rfl rfl (Nat.le_of_ble_eq_true rfl) dX10_tryJoint_36 (fun H locs hw => ?_)
  refine lv_iload_n (pc := 39) hx hb dX10_tryJoint_39 rfl (lv_at hl 7 rfl) ?_
  refine lv_iconst (pc := 40) (v := 2) hx hb dX10_tryJoint_40 (by decide) ?_
  refine lv_iadd (pc := 41) hx hb dX10_tryJoint_41 ?_
  refine lv_topi (pc := 42) (fun x8_1 ex8_1 => ?_)
  have h := nm_at ex8_1 h
  refine lv_istore (pc := 42) (lv' := [(8, .int x8_1), (7, .int 0), (6, .int v_tail), (5, .int v_level), (4, .int v_zeros), (0, .ref a_this), (1, .int x1), (2, .int x2), (3, .int x3)]) hx hb dX10_tryJoint_42 hl (by decide) rfl (fun ls hl => ?_)
  have Lih44_10 : ∀ (F : Nat) (x8_2 : Int32) (x7_3 : Int32) (x6_4 : Int32) (x5_5 : Int32) (x4_6 : Int32) (v_may_7 : Int32) (v_mocks_8 : Int32) (v_sumThen_9 : Int32) (ls : Array Slot) (H : Heap) (locs : List Loc), lv_has ls 10 [(8, .int x8_2), (7, .int x7_3), (6, .int x6_4), (5, .int x5_5), (4, .int x4_6), (0, .ref a_this), (1, .int x1), (2, .int x2), (3, .int x3)] → Wd D A s (wX10_tryJoint cB cI cZ av a_this v_thrown v_size v_begins v_entries v_length v_pressed v_streamFrames v_zeros v_level v_sum v_tail v_isPlayed v_found v_strange v_innerFails v_outerFails v_mostMarks v_unsure v_may_7 v_mocks_8 v_sumThen_9) H locs → fX10_tryJoint_L44 x3 x2 x1 F x8_2 x7_3 x6_4 x5_5 x4_6 v_may_7 v_mocks_8 v_sumThen_9 = some res → W p l e (rmK 0 0) s m ([.ref a_this, .int x1, .int x2, .int x3] : List Value).toArray below meth c H locs 0 0 (MQ below (QG D (tyL cB cI cZ) A (fun _ : Int32 × Int32 × Int32 => none) (fun res : Int32 × Int32 × Int32 => (wX10_tryJoint cB cI cZ av a_this v_thrown v_size v_begins v_entries v_length v_pressed v_streamFrames v_zeros v_level v_sum v_tail v_isPlayed v_found v_strange v_innerFails v_outerFails v_mostMarks v_unsure (res.1) (res.2.1) (res.2.2))) res) ([.ref a_this, .int x1, .int x2, .int x3] : List Value).toArray s 0 0 A) (F0 m 44 ls []) := by
    intro F
    induction F with
    | zero => intro x8_2 x7_3 x6_4 x5_5 x4_6 v_may_7 v_mocks_8 v_sumThen_9 ls H locs hl hw h; rw [fX10_tryJoint_L44.eq_1] at h; cases h
    | succ F44_10 ih44_10 =>
      intro x8_2 x7_3 x6_4 x5_5 x4_6 v_may_7 v_mocks_8 v_sumThen_9 ls H locs hl hw h
      rw [fX10_tryJoint_L44.eq_2] at h
      refine lv_iload (pc := 44) hx hb dX10_tryJoint_44 (lv_at hl 0 rfl) ?_
      refine lv_if_lt (pc := 46) (tgt := 217) hx hb dX10_tryJoint_46 (by decide) (fun hc_11 => ?_) (fun hc_11 => ?_)
      · have h := ift hc_11 h
        exact x_vret (pc := 217) (v := (v_may_7, v_mocks_8, v_sumThen_9)) C (Option.some.inj h) rfl hw dX10_tryJoint_217
      · have h := iff' hc_11 h
        refine lv_iload (pc := 49) hx hb dX10_tryJoint_49 (lv_at hl 0 rfl) ?_
        refine lv_iload_n (pc := 51) hx hb dX10_tryJoint_51 rfl (lv_at hl 8 rfl) ?_
        obtain ⟨j72_13, ej72_13, h⟩ := jk_at h
        have J72_13 : ∀ (t_12 : Int32) (ls : Array Slot) (H : Heap) (locs : List Loc), lv_has ls 10 [(8, .int x8_2), (7, .int x7_3), (6, .int x6_4), (5, .int x5_5), (4, .int x4_6), (0, .ref a_this), (1, .int x1), (2, .int x2), (3, .int x3)] → Wd D A s (wX10_tryJoint cB cI cZ av a_this v_thrown v_size v_begins v_entries v_length v_pressed v_streamFrames v_zeros v_level v_sum v_tail v_isPlayed v_found v_strange v_innerFails v_outerFails v_mostMarks v_unsure v_may_7 v_mocks_8 v_sumThen_9) H locs → j72_13 t_12 = some res → W p l e (rmK 0 0) s m ([.ref a_this, .int x1, .int x2, .int x3] : List Value).toArray below meth c H locs 0 0 (MQ below (QG D (tyL cB cI cZ) A (fun _ : Int32 × Int32 × Int32 => none) (fun res : Int32 × Int32 × Int32 => (wX10_tryJoint cB cI cZ av a_this v_thrown v_size v_begins v_entries v_length v_pressed v_streamFrames v_zeros v_level v_sum v_tail v_isPlayed v_found v_strange v_innerFails v_outerFails v_mostMarks v_unsure (res.1) (res.2.1) (res.2.2))) res) ([.ref a_this, .int x1, .int x2, .int x3] : List Value).toArray s 0 0 A) (F0 m 72 ls [.int t_12]) := by
          intro t_12 ls H locs hl hw h
          have h := k1_at ej72_13 h
          refine lv_istore (pc := 72) (lv' := [(9, .int t_12), (8, .int x8_2), (7, .int x7_3), (6, .int x6_4), (5, .int x5_5), (4, .int x4_6), (0, .ref a_this), (1, .int x1), (2, .int x2), (3, .int x3)]) hx hb dX10_tryJoint_72 hl (by decide) rfl (fun ls hl => ?_)
          refine lv_iload (pc := 74) hx hb dX10_tryJoint_74 (lv_at hl 0 rfl) ?_
          refine lv_iconst (pc := 76) (v := 1) hx hb dX10_tryJoint_76 (by decide) ?_
          obtain ⟨j127_16, ej127_16, h⟩ := jk_at h
          have J127_16 : ∀ (x7_14 : Int32) (v_may_15 : Int32) (ls : Array Slot) (H : Heap) (locs : List Loc), lv_has ls 10 [(9, .int t_12), (8, .int x8_2), (7, .int x7_14), (6, .int x6_4), (5, .int x5_5), (4, .int x4_6), (0, .ref a_this), (1, .int x1), (2, .int x2), (3, .int x3)] → Wd D A s (wX10_tryJoint cB cI cZ av a_this v_thrown v_size v_begins v_entries v_length v_pressed v_streamFrames v_zeros v_level v_sum v_tail v_isPlayed v_found v_strange v_innerFails v_outerFails v_mostMarks v_unsure v_may_15 v_mocks_8 v_sumThen_9) H locs → j127_16 x7_14 v_may_15 = some res → W p l e (rmK 0 0) s m ([.ref a_this, .int x1, .int x2, .int x3] : List Value).toArray below meth c H locs 0 0 (MQ below (QG D (tyL cB cI cZ) A (fun _ : Int32 × Int32 × Int32 => none) (fun res : Int32 × Int32 × Int32 => (wX10_tryJoint cB cI cZ av a_this v_thrown v_size v_begins v_entries v_length v_pressed v_streamFrames v_zeros v_level v_sum v_tail v_isPlayed v_found v_strange v_innerFails v_outerFails v_mostMarks v_unsure (res.1) (res.2.1) (res.2.2))) res) ([.ref a_this, .int x1, .int x2, .int x3] : List Value).toArray s 0 0 A) (F0 m 127 ls []) := by
            intro x7_14 v_may_15 ls H locs hl hw h
            have h := k2_at ej127_16 h
            refine lv_iload (pc := 127) hx hb dX10_tryJoint_127 (lv_at hl 0 rfl) ?_
            refine lv_iconst (pc := 129) (v := 1) hx hb dX10_tryJoint_129 (by decide) ?_
            obtain ⟨j141_18, ej141_18, h⟩ := jk_at h
            have J141_18 : ∀ (t_17 : Int32) (ls : Array Slot) (H : Heap) (locs : List Loc), lv_has ls 10 [(9, .int t_12), (8, .int x8_2), (7, .int x7_14), (6, .int x6_4), (5, .int x5_5), (0, .ref a_this), (1, .int x1), (2, .int x2), (3, .int x3)] → Wd D A s (wX10_tryJoint cB cI cZ av a_this v_thrown v_size v_begins v_entries v_length v_pressed v_streamFrames v_zeros v_level v_sum v_tail v_isPlayed v_found v_strange v_innerFails v_outerFails v_mostMarks v_unsure v_may_15 v_mocks_8 v_sumThen_9) H locs → j141_18 t_17 = some res → W p l e (rmK 0 0) s m ([.ref a_this, .int x1, .int x2, .int x3] : List Value).toArray below meth c H locs 0 0 (MQ below (QG D (tyL cB cI cZ) A (fun _ : Int32 × Int32 × Int32 => none) (fun res : Int32 × Int32 × Int32 => (wX10_tryJoint cB cI cZ av a_this v_thrown v_size v_begins v_entries v_length v_pressed v_streamFrames v_zeros v_level v_sum v_tail v_isPlayed v_found v_strange v_innerFails v_outerFails v_mostMarks v_unsure (res.1) (res.2.1) (res.2.2))) res) ([.ref a_this, .int x1, .int x2, .int x3] : List Value).toArray s 0 0 A) (F0 m 141 ls [.int t_17]) := by
              intro t_17 ls H locs hl hw h
              have h := k1_at ej141_18 h
              refine lv_istore (pc := 141) (lv' := [(4, .int t_17), (9, .int t_12), (8, .int x8_2), (7, .int x7_14), (6, .int x6_4), (5, .int x5_5), (0, .ref a_this), (1, .int x1), (2, .int x2), (3, .int x3)]) hx hb dX10_tryJoint_141 hl (by decide) rfl (fun ls hl => ?_)
              refine lv_iload (pc := 143) hx hb dX10_tryJoint_143 (lv_at hl 1 rfl) ?_
              refine lv_iconst (pc := 145) (v := 1) hx hb dX10_tryJoint_145 (by decide) ?_
              obtain ⟨j157_20, ej157_20, h⟩ := jk_at h
              have J157_20 : ∀ (t_19 : Int32) (ls : Array Slot) (H : Heap) (locs : List Loc), lv_has ls 10 [(4, .int t_17), (9, .int t_12), (8, .int x8_2), (7, .int x7_14), (6, .int x6_4), (0, .ref a_this), (1, .int x1), (2, .int x2), (3, .int x3)] → Wd D A s (wX10_tryJoint cB cI cZ av a_this v_thrown v_size v_begins v_entries v_length v_pressed v_streamFrames v_zeros v_level v_sum v_tail v_isPlayed v_found v_strange v_innerFails v_outerFails v_mostMarks v_unsure v_may_15 v_mocks_8 v_sumThen_9) H locs → j157_20 t_19 = some res → W p l e (rmK 0 0) s m ([.ref a_this, .int x1, .int x2, .int x3] : List Value).toArray below meth c H locs 0 0 (MQ below (QG D (tyL cB cI cZ) A (fun _ : Int32 × Int32 × Int32 => none) (fun res : Int32 × Int32 × Int32 => (wX10_tryJoint cB cI cZ av a_this v_thrown v_size v_begins v_entries v_length v_pressed v_streamFrames v_zeros v_level v_sum v_tail v_isPlayed v_found v_strange v_innerFails v_outerFails v_mostMarks v_unsure (res.1) (res.2.1) (res.2.2))) res) ([.ref a_this, .int x1, .int x2, .int x3] : List Value).toArray s 0 0 A) (F0 m 157 ls [.int t_19]) := by
                intro t_19 ls H locs hl hw h
                have h := k1_at ej157_20 h
                refine lv_istore (pc := 157) (lv' := [(5, .int t_19), (4, .int t_17), (9, .int t_12), (8, .int x8_2), (7, .int x7_14), (6, .int x6_4), (0, .ref a_this), (1, .int x1), (2, .int x2), (3, .int x3)]) hx hb dX10_tryJoint_157 hl (by decide) rfl (fun ls hl => ?_)
                refine lv_aload_n (pc := 159) hx hb dX10_tryJoint_159 rfl (lv_at hl 6 rfl) ?_
                refine lv_dup (pc := 160) hx hb dX10_tryJoint_160 rfl ?_
                refine gf_X10_208 (pc := 161) C hw 0 rfl rfl dX10_tryJoint_161 ?_
                refine lv_iload (pc := 164) hx hb dX10_tryJoint_164 (lv_at hl 0 rfl) ?_
                refine lv_iadd (pc := 166) hx hb dX10_tryJoint_166 ?_
                refine lv_topi (pc := 167) (fun v_sumThen_21 ev_sumThen_21 => ?_)
                have h := nm_at ev_sumThen_21 h
                refine pf_X10_208 (pc := 167) (wX10_tryJoint cB cI cZ av a_this v_thrown v_size v_begins v_entries v_length v_pressed v_streamFrames v_zeros v_level v_sum v_tail v_isPlayed v_found v_strange v_innerFails v_outerFails v_mostMarks v_unsure v_may_15 v_mocks_8 v_sumThen_21) C hw 0 rfl rfl rfl rfl (Nat.le_of_ble_eq_true rfl) dX10_tryJoint_167 (fun H locs hw => ?_)
                refine lv_iload (pc := 170) hx hb dX10_tryJoint_170 (lv_at hl 5 rfl) ?_
                refine lv_iconst (pc := 172) (v := 1) hx hb dX10_tryJoint_172 (by decide) ?_
                refine lv_ishl (pc := 173) hx hb dX10_tryJoint_173 ?_
                refine lv_iload (pc := 174) hx hb dX10_tryJoint_174 (lv_at hl 2 rfl) ?_
                refine lv_ior (pc := 176) hx hb dX10_tryJoint_176 ?_
                refine lv_ldc (pc := 177) (own := RX10) (v := 16777215) hx hb C.2.2.2.1 (C.2.2.2.2.1 _ tw_1277) dX10_tryJoint_177 ?_
                refine lv_iand (pc := 179) hx hb dX10_tryJoint_179 ?_
                refine lv_topi (pc := 180) (fun x6_22 ex6_22 => ?_)
                have h := nm_at ex6_22 h
                refine lv_istore (pc := 180) (lv' := [(6, .int x6_22), (5, .int t_19), (4, .int t_17), (9, .int t_12), (8, .int x8_2), (7, .int x7_14), (0, .ref a_this), (1, .int x1), (2, .int x2), (3, .int x3)]) hx hb dX10_tryJoint_180 hl (by decide) rfl (fun ls hl => ?_)
                refine lv_aload_n (pc := 182) hx hb dX10_tryJoint_182 rfl (lv_at hl 6 rfl) ?_
                refine lv_aload_n (pc := 183) hx hb dX10_tryJoint_183 rfl (lv_at hl 6 rfl) ?_
                refine gf_X10_205 (pc := 184) C hw 0 rfl rfl dX10_tryJoint_184 ?_
                obtain ⟨j208_24, ej208_24, h⟩ := jk_at h
                have J208_24 : ∀ (t_23 : Int32) (ls : Array Slot) (H : Heap) (locs : List Loc), lv_has ls 10 [(6, .int x6_22), (5, .int t_19), (4, .int t_17), (8, .int x8_2), (7, .int x7_14), (0, .ref a_this), (1, .int x1), (2, .int x2), (3, .int x3)] → Wd D A s (wX10_tryJoint cB cI cZ av a_this v_thrown v_size v_begins v_entries v_length v_pressed v_streamFrames v_zeros v_level v_sum v_tail v_isPlayed v_found v_strange v_innerFails v_outerFails v_mostMarks v_unsure v_may_15 v_mocks_8 v_sumThen_21) H locs → j208_24 t_23 = some res → W p l e (rmK 0 0) s m ([.ref a_this, .int x1, .int x2, .int x3] : List Value).toArray below meth c H locs 0 0 (MQ below (QG D (tyL cB cI cZ) A (fun _ : Int32 × Int32 × Int32 => none) (fun res : Int32 × Int32 × Int32 => (wX10_tryJoint cB cI cZ av a_this v_thrown v_size v_begins v_entries v_length v_pressed v_streamFrames v_zeros v_level v_sum v_tail v_isPlayed v_found v_strange v_innerFails v_outerFails v_mostMarks v_unsure (res.1) (res.2.1) (res.2.2))) res) ([.ref a_this, .int x1, .int x2, .int x3] : List Value).toArray s 0 0 A) (F0 m 208 ls [.int t_23, .ref a_this]) := by
                  intro t_23 ls H locs hl hw h
                  have h := k1_at ej208_24 h
                  obtain ⟨hz_25, h⟩ := og_at h
                  refine pf_X10_205 (pc := 208) (wX10_tryJoint cB cI cZ av a_this v_thrown v_size v_begins v_entries v_length v_pressed v_streamFrames v_zeros v_level v_sum v_tail v_isPlayed v_found v_strange v_innerFails v_outerFails v_mostMarks v_unsure v_may_15 t_23 v_sumThen_21) C hw 0 rfl rfl (zb_nar hz_25) (zb_fit hz_25) (Nat.le_of_ble_eq_true rfl) dX10_tryJoint_208 (fun H locs hw => ?_)
                  obtain ⟨x8_26, ex8_26⟩ : ∃ y : Int32, y = x8_2 + (-1) := ⟨_, rfl⟩
                  have h := nm_at ex8_26 h
                  refine lv_iinc (pc := 211) (v := x8_26) (lv' := [(8, .int x8_26), (6, .int x6_22), (5, .int t_19), (4, .int t_17), (7, .int x7_14), (0, .ref a_this), (1, .int x1), (2, .int x2), (3, .int x3)]) hx hb dX10_tryJoint_211 hl (k := 3) rfl (by rw [ex8_26]; rfl) (by decide) rfl (fun ls hl => ?_)
                  refine lv_goto (pc := 214) (tgt := 44) hx hb dX10_tryJoint_214 (by decide) ?_
                  exact ih44_10 x8_26 x7_14 x6_22 t_19 t_17 v_may_15 t_23 v_sumThen_21 ls _ _ (lv_sub hl [0, 4, 1, 2, 3, 5, 6, 7, 8] rfl) hw h
                obtain ⟨j203_27, ej203_27, h⟩ := jk_at h
                have J203_27 : ∀  (ls : Array Slot) (H : Heap) (locs : List Loc), lv_has ls 10 [(6, .int x6_22), (5, .int t_19), (4, .int t_17), (8, .int x8_2), (7, .int x7_14), (0, .ref a_this), (1, .int x1), (2, .int x2), (3, .int x3)] → Wd D A s (wX10_tryJoint cB cI cZ av a_this v_thrown v_size v_begins v_entries v_length v_pressed v_streamFrames v_zeros v_level v_sum v_tail v_isPlayed v_found v_strange v_innerFails v_outerFails v_mostMarks v_unsure v_may_15 v_mocks_8 v_sumThen_21) H locs → j203_27 = some res → W p l e (rmK 0 0) s m ([.ref a_this, .int x1, .int x2, .int x3] : List Value).toArray below meth c H locs 0 0 (MQ below (QG D (tyL cB cI cZ) A (fun _ : Int32 × Int32 × Int32 => none) (fun res : Int32 × Int32 × Int32 => (wX10_tryJoint cB cI cZ av a_this v_thrown v_size v_begins v_entries v_length v_pressed v_streamFrames v_zeros v_level v_sum v_tail v_isPlayed v_found v_strange v_innerFails v_outerFails v_mostMarks v_unsure (res.1) (res.2.1) (res.2.2))) res) ([.ref a_this, .int x1, .int x2, .int x3] : List Value).toArray s 0 0 A) (F0 m 203 ls [.ref a_this]) := by
                  intro  ls H locs hl hw h
                  have h := k0_at ej203_27 h
                  refine lv_iconst (pc := 203) (v := 1) hx hb dX10_tryJoint_203 (by decide) ?_
                  refine lv_goto (pc := 204) (tgt := 208) hx hb dX10_tryJoint_204 (by decide) ?_
                  exact J208_24 1 ls _ _ (lv_sub hl [0, 1, 2, 3, 4, 5, 6, 7, 8] rfl) hw h
                refine lv_if_ne (pc := 187) (tgt := 203) hx hb dX10_tryJoint_187 (by decide) (fun hc_28 => ?_) (fun hc_28 => ?_)
                · have h := iff' hc_28 h
                  exact J203_27  ls _ _ (lv_sub hl [0, 1, 2, 4, 5, 6, 7, 8, 9] rfl) hw h
                · have h := ift hc_28 h
                  refine lv_iload_n (pc := 190) hx hb dX10_tryJoint_190 rfl (lv_at hl 9 rfl) ?_
                  refine lv_bipush (pc := 191) (v := 14) hx hb dX10_tryJoint_191 (by decide) ?_
                  obtain ⟨j207_29, ej207_29, h⟩ := jk_at h
                  have J207_29 : ∀  (ls : Array Slot) (H : Heap) (locs : List Loc), lv_has ls 10 [(6, .int x6_22), (5, .int t_19), (4, .int t_17), (8, .int x8_2), (7, .int x7_14), (0, .ref a_this), (1, .int x1), (2, .int x2), (3, .int x3)] → Wd D A s (wX10_tryJoint cB cI cZ av a_this v_thrown v_size v_begins v_entries v_length v_pressed v_streamFrames v_zeros v_level v_sum v_tail v_isPlayed v_found v_strange v_innerFails v_outerFails v_mostMarks v_unsure v_may_15 v_mocks_8 v_sumThen_21) H locs → j207_29 = some res → W p l e (rmK 0 0) s m ([.ref a_this, .int x1, .int x2, .int x3] : List Value).toArray below meth c H locs 0 0 (MQ below (QG D (tyL cB cI cZ) A (fun _ : Int32 × Int32 × Int32 => none) (fun res : Int32 × Int32 × Int32 => (wX10_tryJoint cB cI cZ av a_this v_thrown v_size v_begins v_entries v_length v_pressed v_streamFrames v_zeros v_level v_sum v_tail v_isPlayed v_found v_strange v_innerFails v_outerFails v_mostMarks v_unsure (res.1) (res.2.1) (res.2.2))) res) ([.ref a_this, .int x1, .int x2, .int x3] : List Value).toArray s 0 0 A) (F0 m 207 ls [.ref a_this]) := by
                    intro  ls H locs hl hw h
                    have h := k0_at ej207_29 h
                    refine lv_iconst (pc := 207) (v := 0) hx hb dX10_tryJoint_207 (by decide) ?_
                    exact J208_24 0 ls _ _ (lv_sub hl [0, 1, 2, 3, 4, 5, 6, 7, 8] rfl) hw h
                  refine lv_icmp_ne (pc := 193) (tgt := 207) hx hb dX10_tryJoint_193 (by decide) (fun hc_30 => ?_) (fun hc_30 => ?_)
                  · have h := iff' hc_30 h
                    exact J207_29  ls _ _ (lv_sub hl [0, 1, 2, 4, 5, 6, 7, 8, 9] rfl) hw h
                  · have h := ift hc_30 h
                    refine lv_iload (pc := 196) hx hb dX10_tryJoint_196 (lv_at hl 0 rfl) ?_
                    refine lv_ldc (pc := 198) (own := RX10) (v := 8392706) hx hb C.2.2.2.1 (C.2.2.2.2.1 _ tw_1272) dX10_tryJoint_198 ?_
                    refine lv_icmp_ne (pc := 200) (tgt := 207) hx hb dX10_tryJoint_200 (by decide) (fun hc_31 => ?_) (fun hc_31 => ?_)
                    · have h := iff' hc_31 h
                      exact J207_29  ls _ _ (lv_sub hl [0, 1, 2, 4, 5, 6, 7, 8, 9] rfl) hw h
                    · have h := ift hc_31 h
                      exact J203_27  ls _ _ (lv_sub hl [0, 1, 2, 4, 5, 6, 7, 8, 9] rfl) hw h
              refine lv_icmp_ne (pc := 146) (tgt := 155) hx hb dX10_tryJoint_146 (by decide) (fun hc_32 => ?_) (fun hc_32 => ?_)
              · have h := iff' hc_32 h
                refine lv_iload (pc := 155) hx hb dX10_tryJoint_155 (lv_at hl 5 rfl) ?_
                exact J157_20 x5_5 ls _ _ (lv_sub hl [0, 1, 2, 3, 4, 6, 7, 8, 9] rfl) hw h
              · have h := ift hc_32 h
                refine lv_iload (pc := 149) hx hb dX10_tryJoint_149 (lv_at hl 5 rfl) ?_
                refine lv_ineg (pc := 151) hx hb dX10_tryJoint_151 ?_
                refine lv_goto (pc := 152) (tgt := 157) hx hb dX10_tryJoint_152 (by decide) ?_
                exact J157_20 (-x5_5) ls _ _ (lv_sub hl [0, 1, 2, 3, 4, 6, 7, 8, 9] rfl) hw h
            refine lv_icmp_ne (pc := 130) (tgt := 137) hx hb dX10_tryJoint_130 (by decide) (fun hc_33 => ?_) (fun hc_33 => ?_)
            · have h := iff' hc_33 h
              refine lv_iload (pc := 137) hx hb dX10_tryJoint_137 (lv_at hl 5 rfl) ?_
              refine lv_iconst (pc := 139) (v := 1) hx hb dX10_tryJoint_139 (by decide) ?_
              refine lv_iadd (pc := 140) hx hb dX10_tryJoint_140 ?_
              exact J141_18 (x4_6 + (1 : Int32)) ls _ _ (lv_sub hl [0, 1, 2, 3, 4, 6, 7, 8, 9] rfl) hw h
            · have h := ift hc_33 h
              refine lv_iconst (pc := 133) (v := 0) hx hb dX10_tryJoint_133 (by decide) ?_
              refine lv_goto (pc := 134) (tgt := 141) hx hb dX10_tryJoint_134 (by decide) ?_
              exact J141_18 0 ls _ _ (lv_sub hl [0, 1, 2, 3, 4, 6, 7, 8, 9] rfl) hw h
          refine lv_icmp_ne (pc := 77) (tgt := 127) hx hb dX10_tryJoint_77 (by decide) (fun hc_34 => ?_) (fun hc_34 => ?_)
          · have h := iff' hc_34 h
            exact J127_16 x7_3 v_may_7 ls _ _ (lv_sub hl [0, 1, 2, 3, 4, 5, 6, 7, 8, 9] rfl) hw h
          · have h := ift hc_34 h
            refine lv_iload (pc := 80) hx hb dX10_tryJoint_80 (lv_at hl 2 rfl) ?_
            refine lv_if_ne (pc := 82) (tgt := 127) hx hb dX10_tryJoint_82 (by decide) (fun hc_35 => ?_) (fun hc_35 => ?_)
            · have h := iff' hc_35 h
              exact J127_16 x7_3 v_may_7 ls _ _ (lv_sub hl [0, 1, 2, 3, 4, 5, 6, 7, 8, 9] rfl) hw h
            · have h := ift hc_35 h
              refine lv_aload_n (pc := 85) hx hb dX10_tryJoint_85 rfl (lv_at hl 6 rfl) ?_
              refine lv_aload_n (pc := 86) hx hb dX10_tryJoint_86 rfl (lv_at hl 6 rfl) ?_
              refine gf_X10_201 (pc := 87) C hw 0 rfl rfl dX10_tryJoint_87 ?_
              obtain ⟨j111_37, ej111_37, h⟩ := jk_at h
              have J111_37 : ∀ (t_36 : Int32) (ls : Array Slot) (H : Heap) (locs : List Loc), lv_has ls 10 [(9, .int t_12), (8, .int x8_2), (6, .int x6_4), (5, .int x5_5), (4, .int x4_6), (0, .ref a_this), (1, .int x1), (2, .int x2), (3, .int x3)] → Wd D A s (wX10_tryJoint cB cI cZ av a_this v_thrown v_size v_begins v_entries v_length v_pressed v_streamFrames v_zeros v_level v_sum v_tail v_isPlayed v_found v_strange v_innerFails v_outerFails v_mostMarks v_unsure v_may_7 v_mocks_8 v_sumThen_9) H locs → j111_37 t_36 = some res → W p l e (rmK 0 0) s m ([.ref a_this, .int x1, .int x2, .int x3] : List Value).toArray below meth c H locs 0 0 (MQ below (QG D (tyL cB cI cZ) A (fun _ : Int32 × Int32 × Int32 => none) (fun res : Int32 × Int32 × Int32 => (wX10_tryJoint cB cI cZ av a_this v_thrown v_size v_begins v_entries v_length v_pressed v_streamFrames v_zeros v_level v_sum v_tail v_isPlayed v_found v_strange v_innerFails v_outerFails v_mostMarks v_unsure (res.1) (res.2.1) (res.2.2))) res) ([.ref a_this, .int x1, .int x2, .int x3] : List Value).toArray s 0 0 A) (F0 m 111 ls [.int t_36, .ref a_this]) := by
                intro t_36 ls H locs hl hw h
                have h := k1_at ej111_37 h
                obtain ⟨hz_38, h⟩ := og_at h
                refine pf_X10_201 (pc := 111) (wX10_tryJoint cB cI cZ av a_this v_thrown v_size v_begins v_entries v_length v_pressed v_streamFrames v_zeros v_level v_sum v_tail v_isPlayed v_found v_strange v_innerFails v_outerFails v_mostMarks v_unsure t_36 v_mocks_8 v_sumThen_9) C hw 0 rfl rfl (zb_nar hz_38) (zb_fit hz_38) (Nat.le_of_ble_eq_true rfl) dX10_tryJoint_111 (fun H locs hw => ?_)
                refine lv_iload (pc := 114) hx hb dX10_tryJoint_114 (lv_at hl 1 rfl) ?_
                refine lv_iload_n (pc := 116) hx hb dX10_tryJoint_116 rfl (lv_at hl 8 rfl) ?_
                obtain ⟨j125_40, ej125_40, h⟩ := jk_at h
                have J125_40 : ∀ (t_39 : Int32) (ls : Array Slot) (H : Heap) (locs : List Loc), lv_has ls 10 [(9, .int t_12), (8, .int x8_2), (6, .int x6_4), (5, .int x5_5), (4, .int x4_6), (0, .ref a_this), (1, .int x1), (2, .int x2), (3, .int x3)] → Wd D A s (wX10_tryJoint cB cI cZ av a_this v_thrown v_size v_begins v_entries v_length v_pressed v_streamFrames v_zeros v_level v_sum v_tail v_isPlayed v_found v_strange v_innerFails v_outerFails v_mostMarks v_unsure t_36 v_mocks_8 v_sumThen_9) H locs → j125_40 t_39 = some res → W p l e (rmK 0 0) s m ([.ref a_this, .int x1, .int x2, .int x3] : List Value).toArray below meth c H locs 0 0 (MQ below (QG D (tyL cB cI cZ) A (fun _ : Int32 × Int32 × Int32 => none) (fun res : Int32 × Int32 × Int32 => (wX10_tryJoint cB cI cZ av a_this v_thrown v_size v_begins v_entries v_length v_pressed v_streamFrames v_zeros v_level v_sum v_tail v_isPlayed v_found v_strange v_innerFails v_outerFails v_mostMarks v_unsure (res.1) (res.2.1) (res.2.2))) res) ([.ref a_this, .int x1, .int x2, .int x3] : List Value).toArray s 0 0 A) (F0 m 125 ls [.int t_39]) := by
                  intro t_39 ls H locs hl hw h
                  have h := k1_at ej125_40 h
                  refine lv_istore (pc := 125) (lv' := [(7, .int t_39), (9, .int t_12), (8, .int x8_2), (6, .int x6_4), (5, .int x5_5), (4, .int x4_6), (0, .ref a_this), (1, .int x1), (2, .int x2), (3, .int x3)]) hx hb dX10_tryJoint_125 hl (by decide) rfl (fun ls hl => ?_)
                  exact J127_16 t_39 t_36 ls _ _ (lv_sub hl [1, 2, 0, 3, 4, 5, 6, 7, 8, 9] rfl) hw h
                refine lv_icmp_ge (pc := 117) (tgt := 124) hx hb dX10_tryJoint_117 (by decide) (fun hc_41 => ?_) (fun hc_41 => ?_)
                · have h := ift hc_41 h
                  refine lv_iconst (pc := 124) (v := 0) hx hb dX10_tryJoint_124 (by decide) ?_
                  exact J125_40 0 ls _ _ (lv_sub hl [0, 1, 2, 3, 4, 5, 6, 7, 8] rfl) hw h
                · have h := iff' hc_41 h
                  refine lv_iconst (pc := 120) (v := 1) hx hb dX10_tryJoint_120 (by decide) ?_
                  refine lv_goto (pc := 121) (tgt := 125) hx hb dX10_tryJoint_121 (by decide) ?_
                  exact J125_40 1 ls _ _ (lv_sub hl [0, 1, 2, 3, 4, 5, 6, 7, 8] rfl) hw h
              obtain ⟨j110_42, ej110_42, h⟩ := jk_at h
              have J110_42 : ∀  (ls : Array Slot) (H : Heap) (locs : List Loc), lv_has ls 10 [(9, .int t_12), (8, .int x8_2), (6, .int x6_4), (5, .int x5_5), (4, .int x4_6), (0, .ref a_this), (1, .int x1), (2, .int x2), (3, .int x3)] → Wd D A s (wX10_tryJoint cB cI cZ av a_this v_thrown v_size v_begins v_entries v_length v_pressed v_streamFrames v_zeros v_level v_sum v_tail v_isPlayed v_found v_strange v_innerFails v_outerFails v_mostMarks v_unsure v_may_7 v_mocks_8 v_sumThen_9) H locs → j110_42 = some res → W p l e (rmK 0 0) s m ([.ref a_this, .int x1, .int x2, .int x3] : List Value).toArray below meth c H locs 0 0 (MQ below (QG D (tyL cB cI cZ) A (fun _ : Int32 × Int32 × Int32 => none) (fun res : Int32 × Int32 × Int32 => (wX10_tryJoint cB cI cZ av a_this v_thrown v_size v_begins v_entries v_length v_pressed v_streamFrames v_zeros v_level v_sum v_tail v_isPlayed v_found v_strange v_innerFails v_outerFails v_mostMarks v_unsure (res.1) (res.2.1) (res.2.2))) res) ([.ref a_this, .int x1, .int x2, .int x3] : List Value).toArray s 0 0 A) (F0 m 110 ls [.ref a_this]) := by
                intro  ls H locs hl hw h
                have h := k0_at ej110_42 h
                refine lv_iconst (pc := 110) (v := 0) hx hb dX10_tryJoint_110 (by decide) ?_
                exact J111_37 0 ls _ _ (lv_sub hl [0, 1, 2, 3, 4, 5, 6, 7, 8] rfl) hw h
              refine lv_if_eq (pc := 90) (tgt := 110) hx hb dX10_tryJoint_90 (by decide) (fun hc_43 => ?_) (fun hc_43 => ?_)
              · have h := ift hc_43 h
                exact J110_42  ls _ _ (lv_sub hl [0, 1, 3, 4, 5, 6, 7, 8, 9] rfl) hw h
              · have h := iff' hc_43 h
                refine lv_iload (pc := 93) hx hb dX10_tryJoint_93 (lv_at hl 5 rfl) ?_
                refine lv_iconst (pc := 95) (v := 1) hx hb dX10_tryJoint_95 (by decide) ?_
                refine lv_icmp_le (pc := 96) (tgt := 110) hx hb dX10_tryJoint_96 (by decide) (fun hc_44 => ?_) (fun hc_44 => ?_)
                · have h := ift hc_44 h
                  exact J110_42  ls _ _ (lv_sub hl [0, 1, 3, 4, 5, 6, 7, 8, 9] rfl) hw h
                · have h := iff' hc_44 h
                  refine lv_iload (pc := 99) hx hb dX10_tryJoint_99 (lv_at hl 5 rfl) ?_
                  refine lv_bipush (pc := 101) (v := 11) hx hb dX10_tryJoint_101 (by decide) ?_
                  refine lv_icmp_ge (pc := 103) (tgt := 110) hx hb dX10_tryJoint_103 (by decide) (fun hc_45 => ?_) (fun hc_45 => ?_)
                  · have h := ift hc_45 h
                    exact J110_42  ls _ _ (lv_sub hl [0, 1, 3, 4, 5, 6, 7, 8, 9] rfl) hw h
                  · have h := iff' hc_45 h
                    refine lv_iconst (pc := 106) (v := 1) hx hb dX10_tryJoint_106 (by decide) ?_
                    refine lv_goto (pc := 107) (tgt := 111) hx hb dX10_tryJoint_107 (by decide) ?_
                    exact J111_37 1 ls _ _ (lv_sub hl [0, 1, 3, 4, 5, 6, 7, 8, 9] rfl) hw h
        refine lv_icmp_lt (pc := 52) (tgt := 66) hx hb dX10_tryJoint_52 (by decide) (fun hc_46 => ?_) (fun hc_46 => ?_)
        · have h := ift hc_46 h
          refine lv_iload_n (pc := 66) hx hb dX10_tryJoint_66 rfl (lv_at hl 7 rfl) ?_
          refine lv_iload (pc := 67) hx hb dX10_tryJoint_67 (lv_at hl 0 rfl) ?_
          refine lv_ishr (pc := 69) hx hb dX10_tryJoint_69 ?_
          refine lv_iconst (pc := 70) (v := 1) hx hb dX10_tryJoint_70 (by decide) ?_
          refine lv_iand (pc := 71) hx hb dX10_tryJoint_71 ?_
          exact J72_13 ((x2 >>> (x8_2 &&& 31) : Int32) &&& (1 : Int32)) ls _ _ (lv_sub hl [0, 1, 2, 3, 4, 5, 6, 7, 8] rfl) hw h
        · have h := iff' hc_46 h
          refine lv_iload_n (pc := 55) hx hb dX10_tryJoint_55 rfl (lv_at hl 6 rfl) ?_
          refine lv_iload (pc := 56) hx hb dX10_tryJoint_56 (lv_at hl 0 rfl) ?_
          refine lv_iload_n (pc := 58) hx hb dX10_tryJoint_58 rfl (lv_at hl 8 rfl) ?_
          refine lv_isub (pc := 59) hx hb dX10_tryJoint_59 ?_
          refine lv_ishr (pc := 60) hx hb dX10_tryJoint_60 ?_
          refine lv_iconst (pc := 61) (v := 1) hx hb dX10_tryJoint_61 (by decide) ?_
          refine lv_iand (pc := 62) hx hb dX10_tryJoint_62 ?_
          refine lv_goto (pc := 63) (tgt := 72) hx hb dX10_tryJoint_63 (by decide) ?_
          exact J72_13 ((x1 >>> ((x8_2 - x3) &&& 31) : Int32) &&& (1 : Int32)) ls _ _ (lv_sub hl [0, 1, 2, 3, 4, 5, 6, 7, 8] rfl) hw h
  exact Lih44_10 FU x8_1 0 v_tail v_level v_zeros 1 0 v_sum ls _ _ (lv_sub hl [0, 1, 2, 3, 4, 5, 6, 7, 8] rfl) hw h
def wX10_jointFor (cB cI cZ : ClassId) (av : Nat → Nat) (a_this : Nat) (v_thrown : Int32) (v_size : Int32) (v_begins : Int32) (v_entries : Int32) (v_length : Int32) (v_pressed : Int32) (v_streamFrames : Int32) (v_zeros : Int32) (v_level : Int32) (v_sum : Int32) (v_tail : Int32) (v_isPlayed : Int32) (v_found : Int32) (v_strange : Int32) (v_innerFails : Int32) (v_outerFails : Int32) (v_mostMarks : Int32) (v_unsure : Int32) (v_may : Int32) (v_mocks : Int32) (v_sumThen : Int32) : va_W := [oX10 a_this av v_thrown v_size v_begins v_entries v_length v_pressed v_streamFrames v_zeros v_level v_sum v_tail v_isPlayed v_found v_strange v_innerFails v_outerFails v_mostMarks v_unsure v_may v_mocks v_sumThen]
def fX10_jointFor_L11 (v_level : Int32) (v_sum : Int32) (v_tail : Int32) (v_zeros : Int32) (x1 : Int32) (x2 : Int32) : Nat → Int32 → Int32 → Int32 → Int32 → Int32 → Int32 → Int32 → Option (Int32 × Int32 × Int32 × Int32)
  | 0, _, _, _, _, _, _, _ => none
  | F11_8 + 1, x6_1, x5_2, x4_3, x3_4, v_may_5, v_mocks_6, v_sumThen_7 => if (4 : Int32) ≤ x6_1 then some (x3_4, v_may_5, v_mocks_6, v_sumThen_7) else jk (fun (t_10 : Int32) => ob3 (fX10_tryJoint v_level v_may_5 v_mocks_6 v_sum v_sumThen_7 v_tail v_zeros t_10 x1 x2) fun v_may_12 v_mocks_13 v_sumThen_14 => jk (fun (t_16 : Int32) => jk (fun (x5_18 : Int32) (x4_19 : Int32) (x3_20 : Int32) => nm (x6_1 + 1 : Int32) fun x6_22 => fX10_jointFor_L11 v_level v_sum v_tail v_zeros x1 x2 F11_8 x6_22 x5_18 x4_19 x3_20 v_may_12 v_mocks_13 v_sumThen_14) fun j122_21 => if v_may_12 = 0 then j122_21 x5_2 x4_3 x3_4 else jk (j122_21 v_mocks_13 t_16 t_10) fun j109_24 => if x3_4 = (-1 : Int32) then j109_24 else jk (jk (if t_16 < x4_3 then j109_24 else j122_21 x5_2 x4_3 x3_4) fun j99_27 => if v_mocks_13 = 0 then j99_27 else if x5_2 = 0 then j122_21 x5_2 x4_3 x3_4 else j99_27) fun j87_26 => if x5_2 = 0 then j87_26 else if v_mocks_13 = 0 then j109_24 else j87_26) fun j61_17 => if 0 ≤ v_sumThen_14 then j61_17 v_sumThen_14 else j61_17 (-v_sumThen_14)) fun j32_11 => if x6_1 = 0 then j32_11 0 else j32_11 ((1 : Int32) <<< ((x6_1 - (1 : Int32)) &&& 31) : Int32)
def fX10_jointFor (v_level : Int32) (v_may : Int32) (v_mocks : Int32) (v_sum : Int32) (v_sumThen : Int32) (v_tail : Int32) (v_zeros : Int32) (x1 : Int32) (x2 : Int32) : Option (Int32 × Int32 × Int32 × Int32) := fX10_jointFor_L11 v_level v_sum v_tail v_zeros x1 x2 FU 0 0 0 (-1) v_may v_mocks v_sumThen
set_option maxHeartbeats 4000000 in
set_option maxRecDepth 100000 in
theorem ct_X10_jointFor (l : Launch) (D : va_G) (cB cI cZ : ClassId) (tw : Nat) (av : Nat → Nat) (a_this : Nat) (v_thrown : Int32) (v_size : Int32) (v_begins : Int32) (v_entries : Int32) (v_length : Int32) (v_pressed : Int32) (v_streamFrames : Int32) (v_zeros : Int32) (v_level : Int32) (v_sum : Int32) (v_tail : Int32) (v_isPlayed : Int32) (v_found : Int32) (v_strange : Int32) (v_innerFails : Int32) (v_outerFails : Int32) (v_mostMarks : Int32) (v_unsure : Int32) (v_may : Int32) (v_mocks : Int32) (v_sumThen : Int32) (x1 : Int32) (x2 : Int32) (res : Int32 × Int32 × Int32 × Int32) (h : fX10_jointFor v_level v_may v_mocks v_sum v_sumThen v_tail v_zeros x1 x2 = some res) : Ctr l yX10_jointFor cX10_jointFor 9 (some .int) (rmK 1 29) D (tyL cB cI cZ) tw [.ref a_this, .int x1, .int x2] (wX10_jointFor cB cI cZ av a_this v_thrown v_size v_begins v_entries v_length v_pressed v_streamFrames v_zeros v_level v_sum v_tail v_isPlayed v_found v_strange v_innerFails v_outerFails v_mostMarks v_unsure v_may v_mocks v_sumThen) (fun res : Int32 × Int32 × Int32 × Int32 => some (.int res.1)) (fun res : Int32 × Int32 × Int32 × Int32 => (wX10_jointFor cB cI cZ av a_this v_thrown v_size v_begins v_entries v_length v_pressed v_streamFrames v_zeros v_level v_sum v_tail v_isPlayed v_found v_strange v_innerFails v_outerFails v_mostMarks v_unsure (res.2.1) (res.2.2.1) (res.2.2.2))) res := by
  refine ctr_of RX10 (by decide) rfl (Nat.le_of_ble_eq_true rfl) ?_
  intro p e s m below meth c A C hw ls hl
  have hx := C.1
  have hb := C.2.1
  have hl : lv_has ls 9 [(0, .ref a_this), (1, .int x1), (2, .int x2)] := hl
  unfold fX10_jointFor at h
  refine lv_iconst (pc := 0) (v := (-1)) hx hb dX10_jointFor_0 (by decide) ?_
  refine lv_istore_n (pc := 1) (lv' := [(3, .int (-1)), (0, .ref a_this), (1, .int x1), (2, .int x2)]) hx hb dX10_jointFor_1 rfl hl (by decide) rfl (fun ls hl => ?_)
  refine lv_iconst (pc := 2) (v := 0) hx hb dX10_jointFor_2 (by decide) ?_
  refine lv_istore (pc := 3) (lv' := [(4, .int 0), (3, .int (-1)), (0, .ref a_this), (1, .int x1), (2, .int x2)]) hx hb dX10_jointFor_3 hl (by decide) rfl (fun ls hl => ?_)
  refine lv_iconst (pc := 5) (v := 0) hx hb dX10_jointFor_5 (by decide) ?_
  refine lv_istore (pc := 6) (lv' := [(5, .int 0), (4, .int 0), (3, .int (-1)), (0, .ref a_this), (1, .int x1), (2, .int x2)]) hx hb dX10_jointFor_6 hl (by decide) rfl (fun ls hl => ?_)
  refine lv_iconst (pc := 8) (v := 0) hx hb dX10_jointFor_8 (by decide) ?_
  refine lv_istore (pc := 9) (lv' := [(6, .int 0), (5, .int 0), (4, .int 0), (3, .int (-1)), (0, .ref a_this), (1, .int x1), (2, .int x2)]) hx hb dX10_jointFor_9 hl (by decide) rfl (fun ls hl => ?_)
  have Lih11_8 : ∀ (F : Nat) (x6_1 : Int32) (x5_2 : Int32) (x4_3 : Int32) (x3_4 : Int32) (v_may_5 : Int32) (v_mocks_6 : Int32) (v_sumThen_7 : Int32) (ls : Array Slot) (H : Heap) (locs : List Loc), lv_has ls 9 [(6, .int x6_1), (5, .int x5_2), (4, .int x4_3), (3, .int x3_4), (0, .ref a_this), (1, .int x1), (2, .int x2)] → Wd D A s (wX10_jointFor cB cI cZ av a_this v_thrown v_size v_begins v_entries v_length v_pressed v_streamFrames v_zeros v_level v_sum v_tail v_isPlayed v_found v_strange v_innerFails v_outerFails v_mostMarks v_unsure v_may_5 v_mocks_6 v_sumThen_7) H locs → fX10_jointFor_L11 v_level v_sum v_tail v_zeros x1 x2 F x6_1 x5_2 x4_3 x3_4 v_may_5 v_mocks_6 v_sumThen_7 = some res → W p l e (rmK 1 29) s m ([.ref a_this, .int x1, .int x2] : List Value).toArray below meth c H locs 0 0 (MQ below (QG D (tyL cB cI cZ) A (fun res : Int32 × Int32 × Int32 × Int32 => some (.int res.1)) (fun res : Int32 × Int32 × Int32 × Int32 => (wX10_jointFor cB cI cZ av a_this v_thrown v_size v_begins v_entries v_length v_pressed v_streamFrames v_zeros v_level v_sum v_tail v_isPlayed v_found v_strange v_innerFails v_outerFails v_mostMarks v_unsure (res.2.1) (res.2.2.1) (res.2.2.2))) res) ([.ref a_this, .int x1, .int x2] : List Value).toArray s 0 0 A) (F0 m 11 ls []) := by
    intro F
    induction F with
    | zero => intro x6_1 x5_2 x4_3 x3_4 v_may_5 v_mocks_6 v_sumThen_7 ls H locs hl hw h; rw [fX10_jointFor_L11.eq_1] at h; cases h
    | succ F11_8 ih11_8 =>
      intro x6_1 x5_2 x4_3 x3_4 v_may_5 v_mocks_6 v_sumThen_7 ls H locs hl hw h
      rw [fX10_jointFor_L11.eq_2] at h
      refine lv_iload (pc := 11) hx hb dX10_jointFor_11 (lv_at hl 0 rfl) ?_
      refine lv_iconst (pc := 13) (v := 4) hx hb dX10_jointFor_13 (by decide) ?_
      refine lv_icmp_ge (pc := 14) (tgt := 128) hx hb dX10_jointFor_14 (by decide) (fun hc_9 => ?_) (fun hc_9 => ?_)
      · have h := ift hc_9 h
        refine lv_iload_n (pc := 128) hx hb dX10_jointFor_128 rfl (lv_at hl 3 rfl) ?_
        exact x_iret (pc := 129) (v := (x3_4, v_may_5, v_mocks_6, v_sumThen_7)) C (Option.some.inj h) rfl hw dX10_jointFor_129
      · have h := iff' hc_9 h
        refine lv_iload (pc := 17) hx hb dX10_jointFor_17 (lv_at hl 0 rfl) ?_
        obtain ⟨j32_11, ej32_11, h⟩ := jk_at h
        have J32_11 : ∀ (t_10 : Int32) (ls : Array Slot) (H : Heap) (locs : List Loc), lv_has ls 9 [(6, .int x6_1), (5, .int x5_2), (4, .int x4_3), (3, .int x3_4), (0, .ref a_this), (1, .int x1), (2, .int x2)] → Wd D A s (wX10_jointFor cB cI cZ av a_this v_thrown v_size v_begins v_entries v_length v_pressed v_streamFrames v_zeros v_level v_sum v_tail v_isPlayed v_found v_strange v_innerFails v_outerFails v_mostMarks v_unsure v_may_5 v_mocks_6 v_sumThen_7) H locs → j32_11 t_10 = some res → W p l e (rmK 1 29) s m ([.ref a_this, .int x1, .int x2] : List Value).toArray below meth c H locs 0 0 (MQ below (QG D (tyL cB cI cZ) A (fun res : Int32 × Int32 × Int32 × Int32 => some (.int res.1)) (fun res : Int32 × Int32 × Int32 × Int32 => (wX10_jointFor cB cI cZ av a_this v_thrown v_size v_begins v_entries v_length v_pressed v_streamFrames v_zeros v_level v_sum v_tail v_isPlayed v_found v_strange v_innerFails v_outerFails v_mostMarks v_unsure (res.2.1) (res.2.2.1) (res.2.2.2))) res) ([.ref a_this, .int x1, .int x2] : List Value).toArray s 0 0 A) (F0 m 32 ls [.int t_10]) := by
          intro t_10 ls H locs hl hw h
          have h := k1_at ej32_11 h
          refine lv_istore (pc := 32) (lv' := [(7, .int t_10), (6, .int x6_1), (5, .int x5_2), (4, .int x4_3), (3, .int x3_4), (0, .ref a_this), (1, .int x1), (2, .int x2)]) hx hb dX10_jointFor_32 hl (by decide) rfl (fun ls hl => ?_)
          refine lv_aload_n (pc := 34) hx hb dX10_jointFor_34 rfl (lv_at hl 5 rfl) ?_
          refine lv_iload (pc := 35) hx hb dX10_jointFor_35 (lv_at hl 0 rfl) ?_
          refine lv_iload_n (pc := 37) hx hb dX10_jointFor_37 rfl (lv_at hl 6 rfl) ?_
          refine lv_iload_n (pc := 38) hx hb dX10_jointFor_38 rfl (lv_at hl 7 rfl) ?_
          obtain ⟨v_may_12, v_mocks_13, v_sumThen_14, hq_15, h⟩ := ob3_at h
          refine x_callV (pc := 39) (rest := []) (stk := []) (wX10_jointFor cB cI cZ av a_this v_thrown v_size v_begins v_entries v_length v_pressed v_streamFrames v_zeros v_level v_sum v_tail v_isPlayed v_found v_strange v_innerFails v_outerFails v_mostMarks v_unsure v_may_12 v_mocks_13 v_sumThen_14) C hw (ct_X10_tryJoint l D cB cI cZ tw av a_this v_thrown v_size v_begins v_entries v_length v_pressed v_streamFrames v_zeros v_level v_sum v_tail v_isPlayed v_found v_strange v_innerFails v_outerFails v_mostMarks v_unsure v_may_5 v_mocks_6 v_sumThen_7 t_10 x1 x2 (v_may_12, v_mocks_13, v_sumThen_14) hq_15) cal_X10_tryJoint tw_1322 (q0 := 0) rfl rfl [0] [] 1 [] rfl rfl rfl rfl rfl rfl rfl rfl rfl rfl rfl (Nat.le_of_ble_eq_true rfl) hl.1 ⟨Nat.le_of_ble_eq_true rfl, Nat.le_of_ble_eq_true rfl⟩ ⟨Nat.zero_le _, Nat.zero_le _⟩ dX10_jointFor_39 (fun H locs hw => ?_)
          refine lv_aload_n (pc := 42) hx hb dX10_jointFor_42 rfl (lv_at hl 5 rfl) ?_
          refine gf_X10_208 (pc := 43) C hw 0 rfl rfl dX10_jointFor_43 ?_
          obtain ⟨j61_17, ej61_17, h⟩ := jk_at h
          have J61_17 : ∀ (t_16 : Int32) (ls : Array Slot) (H : Heap) (locs : List Loc), lv_has ls 9 [(7, .int t_10), (6, .int x6_1), (5, .int x5_2), (4, .int x4_3), (3, .int x3_4), (0, .ref a_this), (1, .int x1), (2, .int x2)] → Wd D A s (wX10_jointFor cB cI cZ av a_this v_thrown v_size v_begins v_entries v_length v_pressed v_streamFrames v_zeros v_level v_sum v_tail v_isPlayed v_found v_strange v_innerFails v_outerFails v_mostMarks v_unsure v_may_12 v_mocks_13 v_sumThen_14) H locs → j61_17 t_16 = some res → W p l e (rmK 1 29) s m ([.ref a_this, .int x1, .int x2] : List Value).toArray below meth c H locs 0 0 (MQ below (QG D (tyL cB cI cZ) A (fun res : Int32 × Int32 × Int32 × Int32 => some (.int res.1)) (fun res : Int32 × Int32 × Int32 × Int32 => (wX10_jointFor cB cI cZ av a_this v_thrown v_size v_begins v_entries v_length v_pressed v_streamFrames v_zeros v_level v_sum v_tail v_isPlayed v_found v_strange v_innerFails v_outerFails v_mostMarks v_unsure (res.2.1) (res.2.2.1) (res.2.2.2))) res) ([.ref a_this, .int x1, .int x2] : List Value).toArray s 0 0 A) (F0 m 61 ls [.int t_16]) := by
            intro t_16 ls H locs hl hw h
            have h := k1_at ej61_17 h
            refine lv_istore (pc := 61) (lv' := [(8, .int t_16), (7, .int t_10), (6, .int x6_1), (5, .int x5_2), (4, .int x4_3), (3, .int x3_4), (0, .ref a_this), (1, .int x1), (2, .int x2)]) hx hb dX10_jointFor_61 hl (by decide) rfl (fun ls hl => ?_)
            refine lv_aload_n (pc := 63) hx hb dX10_jointFor_63 rfl (lv_at hl 6 rfl) ?_
            refine gf_X10_201 (pc := 64) C hw 0 rfl rfl dX10_jointFor_64 ?_
            obtain ⟨j122_21, ej122_21, h⟩ := jk_at h
            have J122_21 : ∀ (x5_18 : Int32) (x4_19 : Int32) (x3_20 : Int32) (ls : Array Slot) (H : Heap) (locs : List Loc), lv_has ls 9 [(6, .int x6_1), (5, .int x5_18), (4, .int x4_19), (3, .int x3_20), (0, .ref a_this), (1, .int x1), (2, .int x2)] → Wd D A s (wX10_jointFor cB cI cZ av a_this v_thrown v_size v_begins v_entries v_length v_pressed v_streamFrames v_zeros v_level v_sum v_tail v_isPlayed v_found v_strange v_innerFails v_outerFails v_mostMarks v_unsure v_may_12 v_mocks_13 v_sumThen_14) H locs → j122_21 x5_18 x4_19 x3_20 = some res → W p l e (rmK 1 29) s m ([.ref a_this, .int x1, .int x2] : List Value).toArray below meth c H locs 0 0 (MQ below (QG D (tyL cB cI cZ) A (fun res : Int32 × Int32 × Int32 × Int32 => some (.int res.1)) (fun res : Int32 × Int32 × Int32 × Int32 => (wX10_jointFor cB cI cZ av a_this v_thrown v_size v_begins v_entries v_length v_pressed v_streamFrames v_zeros v_level v_sum v_tail v_isPlayed v_found v_strange v_innerFails v_outerFails v_mostMarks v_unsure (res.2.1) (res.2.2.1) (res.2.2.2))) res) ([.ref a_this, .int x1, .int x2] : List Value).toArray s 0 0 A) (F0 m 122 ls []) := by
              intro x5_18 x4_19 x3_20 ls H locs hl hw h
              have h := k3_at ej122_21 h
              obtain ⟨x6_22, ex6_22⟩ : ∃ y : Int32, y = x6_1 + 1 := ⟨_, rfl⟩
              have h := nm_at ex6_22 h
              refine lv_iinc (pc := 122) (v := x6_22) (lv' := [(6, .int x6_22), (5, .int x5_18), (4, .int x4_19), (3, .int x3_20), (0, .ref a_this), (1, .int x1), (2, .int x2)]) hx hb dX10_jointFor_122 hl (k := 0) rfl (by rw [ex6_22]; rfl) (by decide) rfl (fun ls hl => ?_)
              refine lv_goto (pc := 125) (tgt := 11) hx hb dX10_jointFor_125 (by decide) ?_
              exact ih11_8 x6_22 x5_18 x4_19 x3_20 v_may_12 v_mocks_13 v_sumThen_14 ls _ _ (lv_sub hl [0, 1, 2, 3, 4, 5, 6] rfl) hw h
            refine lv_if_eq (pc := 67) (tgt := 122) hx hb dX10_jointFor_67 (by decide) (fun hc_23 => ?_) (fun hc_23 => ?_)
            · have h := ift hc_23 h
              exact J122_21 x5_2 x4_3 x3_4 ls _ _ (lv_sub hl [2, 3, 4, 5, 6, 7, 8] rfl) hw h
            · have h := iff' hc_23 h
              refine lv_iload_n (pc := 70) hx hb dX10_jointFor_70 rfl (lv_at hl 5 rfl) ?_
              refine lv_iconst (pc := 71) (v := (-1)) hx hb dX10_jointFor_71 (by decide) ?_
              obtain ⟨j109_24, ej109_24, h⟩ := jk_at h
              have J109_24 : ∀  (ls : Array Slot) (H : Heap) (locs : List Loc), lv_has ls 9 [(8, .int t_16), (7, .int t_10), (6, .int x6_1), (0, .ref a_this), (1, .int x1), (2, .int x2)] → Wd D A s (wX10_jointFor cB cI cZ av a_this v_thrown v_size v_begins v_entries v_length v_pressed v_streamFrames v_zeros v_level v_sum v_tail v_isPlayed v_found v_strange v_innerFails v_outerFails v_mostMarks v_unsure v_may_12 v_mocks_13 v_sumThen_14) H locs → j109_24 = some res → W p l e (rmK 1 29) s m ([.ref a_this, .int x1, .int x2] : List Value).toArray below meth c H locs 0 0 (MQ below (QG D (tyL cB cI cZ) A (fun res : Int32 × Int32 × Int32 × Int32 => some (.int res.1)) (fun res : Int32 × Int32 × Int32 × Int32 => (wX10_jointFor cB cI cZ av a_this v_thrown v_size v_begins v_entries v_length v_pressed v_streamFrames v_zeros v_level v_sum v_tail v_isPlayed v_found v_strange v_innerFails v_outerFails v_mostMarks v_unsure (res.2.1) (res.2.2.1) (res.2.2.2))) res) ([.ref a_this, .int x1, .int x2] : List Value).toArray s 0 0 A) (F0 m 109 ls []) := by
                intro  ls H locs hl hw h
                have h := k0_at ej109_24 h
                refine lv_iload (pc := 109) hx hb dX10_jointFor_109 (lv_at hl 1 rfl) ?_
                refine lv_istore_n (pc := 111) (lv' := [(3, .int t_10), (8, .int t_16), (7, .int t_10), (6, .int x6_1), (0, .ref a_this), (1, .int x1), (2, .int x2)]) hx hb dX10_jointFor_111 rfl hl (by decide) rfl (fun ls hl => ?_)
                refine lv_iload (pc := 112) hx hb dX10_jointFor_112 (lv_at hl 1 rfl) ?_
                refine lv_istore (pc := 114) (lv' := [(4, .int t_16), (3, .int t_10), (8, .int t_16), (7, .int t_10), (6, .int x6_1), (0, .ref a_this), (1, .int x1), (2, .int x2)]) hx hb dX10_jointFor_114 hl (by decide) rfl (fun ls hl => ?_)
                refine lv_aload_n (pc := 116) hx hb dX10_jointFor_116 rfl (lv_at hl 5 rfl) ?_
                refine gf_X10_205 (pc := 117) C hw 0 rfl rfl dX10_jointFor_117 ?_
                refine lv_istore (pc := 120) (lv' := [(5, .int v_mocks_13), (4, .int t_16), (3, .int t_10), (8, .int t_16), (7, .int t_10), (6, .int x6_1), (0, .ref a_this), (1, .int x1), (2, .int x2)]) hx hb dX10_jointFor_120 hl (by decide) rfl (fun ls hl => ?_)
                exact J122_21 v_mocks_13 t_16 t_10 ls _ _ (lv_sub hl [5, 0, 1, 2, 6, 7, 8] rfl) hw h
              refine lv_icmp_eq (pc := 72) (tgt := 109) hx hb dX10_jointFor_72 (by decide) (fun hc_25 => ?_) (fun hc_25 => ?_)
              · have h := ift hc_25 h
                exact J109_24  ls _ _ (lv_sub hl [0, 1, 2, 6, 7, 8] rfl) hw h
              · have h := iff' hc_25 h
                refine lv_iload (pc := 75) hx hb dX10_jointFor_75 (lv_at hl 3 rfl) ?_
                obtain ⟨j87_26, ej87_26, h⟩ := jk_at h
                have J87_26 : ∀  (ls : Array Slot) (H : Heap) (locs : List Loc), lv_has ls 9 [(8, .int t_16), (7, .int t_10), (6, .int x6_1), (5, .int x5_2), (4, .int x4_3), (3, .int x3_4), (0, .ref a_this), (1, .int x1), (2, .int x2)] → Wd D A s (wX10_jointFor cB cI cZ av a_this v_thrown v_size v_begins v_entries v_length v_pressed v_streamFrames v_zeros v_level v_sum v_tail v_isPlayed v_found v_strange v_innerFails v_outerFails v_mostMarks v_unsure v_may_12 v_mocks_13 v_sumThen_14) H locs → j87_26 = some res → W p l e (rmK 1 29) s m ([.ref a_this, .int x1, .int x2] : List Value).toArray below meth c H locs 0 0 (MQ below (QG D (tyL cB cI cZ) A (fun res : Int32 × Int32 × Int32 × Int32 => some (.int res.1)) (fun res : Int32 × Int32 × Int32 × Int32 => (wX10_jointFor cB cI cZ av a_this v_thrown v_size v_begins v_entries v_length v_pressed v_streamFrames v_zeros v_level v_sum v_tail v_isPlayed v_found v_strange v_innerFails v_outerFails v_mostMarks v_unsure (res.2.1) (res.2.2.1) (res.2.2.2))) res) ([.ref a_this, .int x1, .int x2] : List Value).toArray s 0 0 A) (F0 m 87 ls []) := by
                  intro  ls H locs hl hw h
                  have h := k0_at ej87_26 h
                  refine lv_aload_n (pc := 87) hx hb dX10_jointFor_87 rfl (lv_at hl 6 rfl) ?_
                  refine gf_X10_205 (pc := 88) C hw 0 rfl rfl dX10_jointFor_88 ?_
                  obtain ⟨j99_27, ej99_27, h⟩ := jk_at h
                  have J99_27 : ∀  (ls : Array Slot) (H : Heap) (locs : List Loc), lv_has ls 9 [(8, .int t_16), (7, .int t_10), (6, .int x6_1), (5, .int x5_2), (4, .int x4_3), (3, .int x3_4), (0, .ref a_this), (1, .int x1), (2, .int x2)] → Wd D A s (wX10_jointFor cB cI cZ av a_this v_thrown v_size v_begins v_entries v_length v_pressed v_streamFrames v_zeros v_level v_sum v_tail v_isPlayed v_found v_strange v_innerFails v_outerFails v_mostMarks v_unsure v_may_12 v_mocks_13 v_sumThen_14) H locs → j99_27 = some res → W p l e (rmK 1 29) s m ([.ref a_this, .int x1, .int x2] : List Value).toArray below meth c H locs 0 0 (MQ below (QG D (tyL cB cI cZ) A (fun res : Int32 × Int32 × Int32 × Int32 => some (.int res.1)) (fun res : Int32 × Int32 × Int32 × Int32 => (wX10_jointFor cB cI cZ av a_this v_thrown v_size v_begins v_entries v_length v_pressed v_streamFrames v_zeros v_level v_sum v_tail v_isPlayed v_found v_strange v_innerFails v_outerFails v_mostMarks v_unsure (res.2.1) (res.2.2.1) (res.2.2.2))) res) ([.ref a_this, .int x1, .int x2] : List Value).toArray s 0 0 A) (F0 m 99 ls []) := by
                    intro  ls H locs hl hw h
                    have h := k0_at ej99_27 h
                    refine lv_iload (pc := 99) hx hb dX10_jointFor_99 (lv_at hl 0 rfl) ?_
                    refine lv_iload (pc := 101) hx hb dX10_jointFor_101 (lv_at hl 4 rfl) ?_
                    refine lv_icmp_lt (pc := 103) (tgt := 109) hx hb dX10_jointFor_103 (by decide) (fun hc_28 => ?_) (fun hc_28 => ?_)
                    · have h := ift hc_28 h
                      exact J109_24  ls _ _ (lv_sub hl [0, 1, 2, 6, 7, 8] rfl) hw h
                    · have h := iff' hc_28 h
                      refine lv_goto (pc := 106) (tgt := 122) hx hb dX10_jointFor_106 (by decide) ?_
                      exact J122_21 x5_2 x4_3 x3_4 ls _ _ (lv_sub hl [2, 3, 4, 5, 6, 7, 8] rfl) hw h
                  refine lv_if_eq (pc := 91) (tgt := 99) hx hb dX10_jointFor_91 (by decide) (fun hc_29 => ?_) (fun hc_29 => ?_)
                  · have h := ift hc_29 h
                    exact J99_27  ls _ _ (lv_sub hl [0, 1, 2, 3, 4, 5, 6, 7, 8] rfl) hw h
                  · have h := iff' hc_29 h
                    refine lv_iload (pc := 94) hx hb dX10_jointFor_94 (lv_at hl 3 rfl) ?_
                    refine lv_if_eq (pc := 96) (tgt := 122) hx hb dX10_jointFor_96 (by decide) (fun hc_30 => ?_) (fun hc_30 => ?_)
                    · have h := ift hc_30 h
                      exact J122_21 x5_2 x4_3 x3_4 ls _ _ (lv_sub hl [2, 3, 4, 5, 6, 7, 8] rfl) hw h
                    · have h := iff' hc_30 h
                      exact J99_27  ls _ _ (lv_sub hl [0, 1, 2, 3, 4, 5, 6, 7, 8] rfl) hw h
                refine lv_if_eq (pc := 77) (tgt := 87) hx hb dX10_jointFor_77 (by decide) (fun hc_31 => ?_) (fun hc_31 => ?_)
                · have h := ift hc_31 h
                  exact J87_26  ls _ _ (lv_sub hl [0, 1, 2, 3, 4, 5, 6, 7, 8] rfl) hw h
                · have h := iff' hc_31 h
                  refine lv_aload_n (pc := 80) hx hb dX10_jointFor_80 rfl (lv_at hl 6 rfl) ?_
                  refine gf_X10_205 (pc := 81) C hw 0 rfl rfl dX10_jointFor_81 ?_
                  refine lv_if_eq (pc := 84) (tgt := 109) hx hb dX10_jointFor_84 (by decide) (fun hc_32 => ?_) (fun hc_32 => ?_)
                  · have h := ift hc_32 h
                    exact J109_24  ls _ _ (lv_sub hl [0, 1, 2, 6, 7, 8] rfl) hw h
                  · have h := iff' hc_32 h
                    exact J87_26  ls _ _ (lv_sub hl [0, 1, 2, 3, 4, 5, 6, 7, 8] rfl) hw h
          refine lv_if_ge (pc := 46) (tgt := 57) hx hb dX10_jointFor_46 (by decide) (fun hc_33 => ?_) (fun hc_33 => ?_)
          · have h := ift hc_33 h
            refine lv_aload_n (pc := 57) hx hb dX10_jointFor_57 rfl (lv_at hl 5 rfl) ?_
            refine gf_X10_208 (pc := 58) C hw 0 rfl rfl dX10_jointFor_58 ?_
            exact J61_17 v_sumThen_14 ls _ _ (lv_sub hl [0, 1, 2, 3, 4, 5, 6, 7] rfl) hw h
          · have h := iff' hc_33 h
            refine lv_aload_n (pc := 49) hx hb dX10_jointFor_49 rfl (lv_at hl 5 rfl) ?_
            refine gf_X10_208 (pc := 50) C hw 0 rfl rfl dX10_jointFor_50 ?_
            refine lv_ineg (pc := 53) hx hb dX10_jointFor_53 ?_
            refine lv_goto (pc := 54) (tgt := 61) hx hb dX10_jointFor_54 (by decide) ?_
            exact J61_17 (-v_sumThen_14) ls _ _ (lv_sub hl [0, 1, 2, 3, 4, 5, 6, 7] rfl) hw h
        refine lv_if_ne (pc := 19) (tgt := 26) hx hb dX10_jointFor_19 (by decide) (fun hc_34 => ?_) (fun hc_34 => ?_)
        · have h := iff' hc_34 h
          refine lv_iconst (pc := 26) (v := 1) hx hb dX10_jointFor_26 (by decide) ?_
          refine lv_iload (pc := 27) hx hb dX10_jointFor_27 (lv_at hl 0 rfl) ?_
          refine lv_iconst (pc := 29) (v := 1) hx hb dX10_jointFor_29 (by decide) ?_
          refine lv_isub (pc := 30) hx hb dX10_jointFor_30 ?_
          refine lv_ishl (pc := 31) hx hb dX10_jointFor_31 ?_
          exact J32_11 ((1 : Int32) <<< ((x6_1 - (1 : Int32)) &&& 31) : Int32) ls _ _ (lv_sub hl [0, 1, 2, 3, 4, 5, 6] rfl) hw h
        · have h := ift hc_34 h
          refine lv_iconst (pc := 22) (v := 0) hx hb dX10_jointFor_22 (by decide) ?_
          refine lv_goto (pc := 23) (tgt := 32) hx hb dX10_jointFor_23 (by decide) ?_
          exact J32_11 0 ls _ _ (lv_sub hl [0, 1, 2, 3, 4, 5, 6] rfl) hw h
  exact Lih11_8 FU 0 0 0 (-1) v_may v_mocks v_sumThen ls _ _ (lv_sub hl [0, 1, 2, 3, 4, 5, 6] rfl) hw h
def wX10_layWord (cB cI cZ : ClassId) (av : Nat → Nat) (a_this : Nat) (v_thrown : Int32) (v_size : Int32) (v_begins : Int32) (v_entries : Int32) (v_length : Int32) (v_pressed : Int32) (v_streamFrames : Int32) (v_zeros : Int32) (v_level : Int32) (v_sum : Int32) (v_tail : Int32) (v_isPlayed : Int32) (v_found : Int32) (v_strange : Int32) (v_innerFails : Int32) (v_outerFails : Int32) (v_mostMarks : Int32) (v_unsure : Int32) (v_may : Int32) (v_mocks : Int32) (v_sumThen : Int32) (v_bits : Nat → Int32) : va_W := [oX10 a_this av v_thrown v_size v_begins v_entries v_length v_pressed v_streamFrames v_zeros v_level v_sum v_tail v_isPlayed v_found v_strange v_innerFails v_outerFails v_mostMarks v_unsure v_may v_mocks v_sumThen, ((av 13), .inl (cB, 360000, .inl v_bits))]
def fX10_layWord (v_length : Int32) (v_level : Int32) (v_may : Int32) (v_mocks : Int32) (v_sum : Int32) (v_sumThen : Int32) (v_tail : Int32) (v_zeros : Int32) (v_bits : Nat → Int32) (x1 : Int32) (x2 : Int32) : Option (Int32 × Int32 × Int32 × Int32 × Int32 × Int32 × Int32 × Int32 × (Nat → Int32)) := ob4 (fX10_jointFor v_level v_may v_mocks v_sum v_sumThen v_tail v_zeros x1 x2) fun r_1 v_may_2 v_mocks_3 v_sumThen_4 => ob6 (fX10_layBits v_length v_level v_sum v_tail v_zeros v_bits r_1 3) fun v_length_6 v_level_7 v_sum_8 v_tail_9 v_zeros_10 v_bits_11 => ob6 (fX10_layBits v_length_6 v_level_7 v_sum_8 v_tail_9 v_zeros_10 v_bits_11 x1 x2) fun v_length_13 v_level_14 v_sum_15 v_tail_16 v_zeros_17 v_bits_18 => some (v_length_13, v_level_14, v_may_2, v_mocks_3, v_sum_15, v_sumThen_4, v_tail_16, v_zeros_17, v_bits_18)
set_option maxHeartbeats 4000000 in
set_option maxRecDepth 100000 in
theorem ct_X10_layWord (l : Launch) (D : va_G) (cB cI cZ : ClassId) (tw : Nat) (av : Nat → Nat) (a_this : Nat) (v_thrown : Int32) (v_size : Int32) (v_begins : Int32) (v_entries : Int32) (v_length : Int32) (v_pressed : Int32) (v_streamFrames : Int32) (v_zeros : Int32) (v_level : Int32) (v_sum : Int32) (v_tail : Int32) (v_isPlayed : Int32) (v_found : Int32) (v_strange : Int32) (v_innerFails : Int32) (v_outerFails : Int32) (v_mostMarks : Int32) (v_unsure : Int32) (v_may : Int32) (v_mocks : Int32) (v_sumThen : Int32) (v_bits : Nat → Int32) (x1 : Int32) (x2 : Int32) (res : Int32 × Int32 × Int32 × Int32 × Int32 × Int32 × Int32 × Int32 × (Nat → Int32)) (h : fX10_layWord v_length v_level v_may v_mocks v_sum v_sumThen v_tail v_zeros v_bits x1 x2 = some res) : Ctr l yX10_layWord cX10_layWord 4 none (rmK 2 57) D (tyL cB cI cZ) tw [.ref a_this, .int x1, .int x2] (wX10_layWord cB cI cZ av a_this v_thrown v_size v_begins v_entries v_length v_pressed v_streamFrames v_zeros v_level v_sum v_tail v_isPlayed v_found v_strange v_innerFails v_outerFails v_mostMarks v_unsure v_may v_mocks v_sumThen v_bits) (fun _ : Int32 × Int32 × Int32 × Int32 × Int32 × Int32 × Int32 × Int32 × (Nat → Int32) => none) (fun res : Int32 × Int32 × Int32 × Int32 × Int32 × Int32 × Int32 × Int32 × (Nat → Int32) => (wX10_layWord cB cI cZ av a_this v_thrown v_size v_begins v_entries (res.1) v_pressed v_streamFrames (res.2.2.2.2.2.2.2.1) (res.2.1) (res.2.2.2.2.1) (res.2.2.2.2.2.2.1) v_isPlayed v_found v_strange v_innerFails v_outerFails v_mostMarks v_unsure (res.2.2.1) (res.2.2.2.1) (res.2.2.2.2.2.1) (res.2.2.2.2.2.2.2.2))) res := by
  refine ctr_of RX10 (by decide) rfl (Nat.le_of_ble_eq_true rfl) ?_
  intro p e s m below meth c A C hw ls hl
  have hx := C.1
  have hb := C.2.1
  have hl : lv_has ls 4 [(0, .ref a_this), (1, .int x1), (2, .int x2)] := hl
  unfold fX10_layWord at h
  refine lv_aload_n (pc := 0) hx hb dX10_layWord_0 rfl (lv_at hl 0 rfl) ?_
  refine lv_iload_n (pc := 1) hx hb dX10_layWord_1 rfl (lv_at hl 1 rfl) ?_
  refine lv_iload_n (pc := 2) hx hb dX10_layWord_2 rfl (lv_at hl 2 rfl) ?_
  obtain ⟨r_1, v_may_2, v_mocks_3, v_sumThen_4, hq_5, h⟩ := ob4_at h
  refine x_callV (pc := 3) (rest := []) (stk := [.int r_1]) (wX10_layWord cB cI cZ av a_this v_thrown v_size v_begins v_entries v_length v_pressed v_streamFrames v_zeros v_level v_sum v_tail v_isPlayed v_found v_strange v_innerFails v_outerFails v_mostMarks v_unsure v_may_2 v_mocks_3 v_sumThen_4 v_bits) C hw (ct_X10_jointFor l D cB cI cZ tw av a_this v_thrown v_size v_begins v_entries v_length v_pressed v_streamFrames v_zeros v_level v_sum v_tail v_isPlayed v_found v_strange v_innerFails v_outerFails v_mostMarks v_unsure v_may v_mocks v_sumThen x1 x2 (r_1, v_may_2, v_mocks_3, v_sumThen_4) hq_5) cal_X10_jointFor tw_1318 (q0 := 0) rfl rfl [0] [1] 2 [((av 13), .inl (cB, 360000, .inl v_bits))] rfl rfl rfl rfl rfl rfl rfl rfl rfl rfl rfl (Nat.le_of_ble_eq_true rfl) hl.1 ⟨Nat.le_of_ble_eq_true rfl, Nat.le_of_ble_eq_true rfl⟩ ⟨Nat.zero_le _, Nat.zero_le _⟩ dX10_layWord_3 (fun H locs hw => ?_)
  refine lv_istore_n (pc := 6) (lv' := [(3, .int r_1), (0, .ref a_this), (1, .int x1), (2, .int x2)]) hx hb dX10_layWord_6 rfl hl (by decide) rfl (fun ls hl => ?_)
  refine lv_aload_n (pc := 7) hx hb dX10_layWord_7 rfl (lv_at hl 1 rfl) ?_
  refine lv_iload_n (pc := 8) hx hb dX10_layWord_8 rfl (lv_at hl 0 rfl) ?_
  refine lv_iconst (pc := 9) (v := 3) hx hb dX10_layWord_9 (by decide) ?_
  obtain ⟨v_length_6, v_level_7, v_sum_8, v_tail_9, v_zeros_10, v_bits_11, hq_12, h⟩ := ob6_at h
  refine x_callV (pc := 10) (rest := []) (stk := []) (wX10_layWord cB cI cZ av a_this v_thrown v_size v_begins v_entries v_length_6 v_pressed v_streamFrames v_zeros_10 v_level_7 v_sum_8 v_tail_9 v_isPlayed v_found v_strange v_innerFails v_outerFails v_mostMarks v_unsure v_may_2 v_mocks_3 v_sumThen_4 v_bits_11) C hw (ct_X10_layBits l D cB cI cZ tw av a_this v_thrown v_size v_begins v_entries v_length v_pressed v_streamFrames v_zeros v_level v_sum v_tail v_isPlayed v_found v_strange v_innerFails v_outerFails v_mostMarks v_unsure v_may_2 v_mocks_3 v_sumThen_4 v_bits r_1 3 (v_length_6, v_level_7, v_sum_8, v_tail_9, v_zeros_10, v_bits_11) hq_12) cal_X10_layBits tw_1273 (q0 := 0) rfl rfl [0, 1] [] 2 [] rfl rfl rfl rfl rfl rfl rfl rfl rfl rfl rfl (Nat.le_of_ble_eq_true rfl) hl.1 ⟨Nat.le_of_ble_eq_true rfl, Nat.le_of_ble_eq_true rfl⟩ ⟨Nat.zero_le _, Nat.zero_le _⟩ dX10_layWord_10 (fun H locs hw => ?_)
  refine lv_aload_n (pc := 13) hx hb dX10_layWord_13 rfl (lv_at hl 1 rfl) ?_
  refine lv_iload_n (pc := 14) hx hb dX10_layWord_14 rfl (lv_at hl 2 rfl) ?_
  refine lv_iload_n (pc := 15) hx hb dX10_layWord_15 rfl (lv_at hl 3 rfl) ?_
  obtain ⟨v_length_13, v_level_14, v_sum_15, v_tail_16, v_zeros_17, v_bits_18, hq_19, h⟩ := ob6_at h
  refine x_callV (pc := 16) (rest := []) (stk := []) (wX10_layWord cB cI cZ av a_this v_thrown v_size v_begins v_entries v_length_13 v_pressed v_streamFrames v_zeros_17 v_level_14 v_sum_15 v_tail_16 v_isPlayed v_found v_strange v_innerFails v_outerFails v_mostMarks v_unsure v_may_2 v_mocks_3 v_sumThen_4 v_bits_18) C hw (ct_X10_layBits l D cB cI cZ tw av a_this v_thrown v_size v_begins v_entries v_length_6 v_pressed v_streamFrames v_zeros_10 v_level_7 v_sum_8 v_tail_9 v_isPlayed v_found v_strange v_innerFails v_outerFails v_mostMarks v_unsure v_may_2 v_mocks_3 v_sumThen_4 v_bits_11 x1 x2 (v_length_13, v_level_14, v_sum_15, v_tail_16, v_zeros_17, v_bits_18) hq_19) cal_X10_layBits tw_1273 (q0 := 0) rfl rfl [0, 1] [] 2 [] rfl rfl rfl rfl rfl rfl rfl rfl rfl rfl rfl (Nat.le_of_ble_eq_true rfl) hl.1 ⟨Nat.le_of_ble_eq_true rfl, Nat.le_of_ble_eq_true rfl⟩ ⟨Nat.zero_le _, Nat.zero_le _⟩ dX10_layWord_16 (fun H locs hw => ?_)
  exact x_vret (pc := 19) (v := (v_length_13, v_level_14, v_may_2, v_mocks_3, v_sum_15, v_sumThen_4, v_tail_16, v_zeros_17, v_bits_18)) C (Option.some.inj h) rfl hw dX10_layWord_19
def wX10_entryFor (cB cI cZ : ClassId) (av : Nat → Nat) (a_this : Nat) (v_thrown : Int32) (v_size : Int32) (v_begins : Int32) (v_entries : Int32) (v_length : Int32) (v_pressed : Int32) (v_streamFrames : Int32) (v_zeros : Int32) (v_level : Int32) (v_sum : Int32) (v_tail : Int32) (v_isPlayed : Int32) (v_found : Int32) (v_strange : Int32) (v_innerFails : Int32) (v_outerFails : Int32) (v_mostMarks : Int32) (v_unsure : Int32) (v_may : Int32) (v_mocks : Int32) (v_sumThen : Int32) (v_entrySection : Nat → Int32) : va_W := [oX10 a_this av v_thrown v_size v_begins v_entries v_length v_pressed v_streamFrames v_zeros v_level v_sum v_tail v_isPlayed v_found v_strange v_innerFails v_outerFails v_mostMarks v_unsure v_may v_mocks v_sumThen, ((av 9), .inl (cI, 20, .inl v_entrySection))]
def fX10_entryFor_L4 (v_entries : Int32) (x1 : Int32) (v_entrySection : Nat → Int32) : Nat → Int32 → Int32 → Option (Int32)
  | 0, _, _ => none
  | F4_3 + 1, x3_1, x2_2 => if v_entries ≤ x3_1 then some x2_2 else og (ixb x3_1 20) (jk (fun (x2_6 : Int32) => nm (x3_1 + 1 : Int32) fun x3_8 => fX10_entryFor_L4 v_entries x1 v_entrySection F4_3 x3_8 x2_6) fun j43_7 => if x1 < (v_entrySection (Int32.toNatClampNeg x3_1)) then j43_7 x2_2 else jk (j43_7 x3_1) fun j41_10 => if x2_2 < 0 then j41_10 else og (ixb x3_1 20) (og (ixb x2_2 20) (if (v_entrySection (Int32.toNatClampNeg x3_1)) < (v_entrySection (Int32.toNatClampNeg x2_2)) then j43_7 x2_2 else j41_10)))
def fX10_entryFor (v_entries : Int32) (v_entrySection : Nat → Int32) (x1 : Int32) : Option (Int32) := fX10_entryFor_L4 v_entries x1 v_entrySection FU 0 (-1)
set_option maxHeartbeats 4000000 in
set_option maxRecDepth 100000 in
theorem ct_X10_entryFor (l : Launch) (D : va_G) (cB cI cZ : ClassId) (tw : Nat) (av : Nat → Nat) (a_this : Nat) (v_thrown : Int32) (v_size : Int32) (v_begins : Int32) (v_entries : Int32) (v_length : Int32) (v_pressed : Int32) (v_streamFrames : Int32) (v_zeros : Int32) (v_level : Int32) (v_sum : Int32) (v_tail : Int32) (v_isPlayed : Int32) (v_found : Int32) (v_strange : Int32) (v_innerFails : Int32) (v_outerFails : Int32) (v_mostMarks : Int32) (v_unsure : Int32) (v_may : Int32) (v_mocks : Int32) (v_sumThen : Int32) (v_entrySection : Nat → Int32) (x1 : Int32) (res : Int32) (h : fX10_entryFor v_entries v_entrySection x1 = some res) : Ctr l yX10_entryFor cX10_entryFor 4 (some .int) (rmK 0 0) D (tyL cB cI cZ) tw [.ref a_this, .int x1] (wX10_entryFor cB cI cZ av a_this v_thrown v_size v_begins v_entries v_length v_pressed v_streamFrames v_zeros v_level v_sum v_tail v_isPlayed v_found v_strange v_innerFails v_outerFails v_mostMarks v_unsure v_may v_mocks v_sumThen v_entrySection) (fun res : Int32 => some (.int res)) (fun res : Int32 => (wX10_entryFor cB cI cZ av a_this v_thrown v_size v_begins v_entries v_length v_pressed v_streamFrames v_zeros v_level v_sum v_tail v_isPlayed v_found v_strange v_innerFails v_outerFails v_mostMarks v_unsure v_may v_mocks v_sumThen v_entrySection)) res := by
  refine ctr_of RX10 (by decide) rfl (Nat.le_of_ble_eq_true rfl) ?_
  intro p e s m below meth c A C hw ls hl
  have hx := C.1
  have hb := C.2.1
  have hl : lv_has ls 4 [(0, .ref a_this), (1, .int x1)] := hl
  unfold fX10_entryFor at h
  refine lv_iconst (pc := 0) (v := (-1)) hx hb dX10_entryFor_0 (by decide) ?_
  refine lv_istore_n (pc := 1) (lv' := [(2, .int (-1)), (0, .ref a_this), (1, .int x1)]) hx hb dX10_entryFor_1 rfl hl (by decide) rfl (fun ls hl => ?_)
  refine lv_iconst (pc := 2) (v := 0) hx hb dX10_entryFor_2 (by decide) ?_
  refine lv_istore_n (pc := 3) (lv' := [(3, .int 0), (2, .int (-1)), (0, .ref a_this), (1, .int x1)]) hx hb dX10_entryFor_3 rfl hl (by decide) rfl (fun ls hl => ?_)
  have Lih4_3 : ∀ (F : Nat) (x3_1 : Int32) (x2_2 : Int32) (ls : Array Slot) (H : Heap) (locs : List Loc), lv_has ls 4 [(3, .int x3_1), (2, .int x2_2), (0, .ref a_this), (1, .int x1)] → Wd D A s (wX10_entryFor cB cI cZ av a_this v_thrown v_size v_begins v_entries v_length v_pressed v_streamFrames v_zeros v_level v_sum v_tail v_isPlayed v_found v_strange v_innerFails v_outerFails v_mostMarks v_unsure v_may v_mocks v_sumThen v_entrySection) H locs → fX10_entryFor_L4 v_entries x1 v_entrySection F x3_1 x2_2 = some res → W p l e (rmK 0 0) s m ([.ref a_this, .int x1] : List Value).toArray below meth c H locs 0 0 (MQ below (QG D (tyL cB cI cZ) A (fun res : Int32 => some (.int res)) (fun res : Int32 => (wX10_entryFor cB cI cZ av a_this v_thrown v_size v_begins v_entries v_length v_pressed v_streamFrames v_zeros v_level v_sum v_tail v_isPlayed v_found v_strange v_innerFails v_outerFails v_mostMarks v_unsure v_may v_mocks v_sumThen v_entrySection)) res) ([.ref a_this, .int x1] : List Value).toArray s 0 0 A) (F0 m 4 ls []) := by
    intro F
    induction F with
    | zero => intro x3_1 x2_2 ls H locs hl hw h; rw [fX10_entryFor_L4.eq_1] at h; cases h
    | succ F4_3 ih4_3 =>
      intro x3_1 x2_2 ls H locs hl hw h
      rw [fX10_entryFor_L4.eq_2] at h
      refine lv_iload_n (pc := 4) hx hb dX10_entryFor_4 rfl (lv_at hl 0 rfl) ?_
      refine lv_aload_n (pc := 5) hx hb dX10_entryFor_5 rfl (lv_at hl 2 rfl) ?_
      refine gf_X10_166 (pc := 6) C hw 0 rfl rfl dX10_entryFor_6 ?_
      refine lv_icmp_ge (pc := 9) (tgt := 49) hx hb dX10_entryFor_9 (by decide) (fun hc_4 => ?_) (fun hc_4 => ?_)
      · have h := ift hc_4 h
        refine lv_iload_n (pc := 49) hx hb dX10_entryFor_49 rfl (lv_at hl 1 rfl) ?_
        exact x_iret (pc := 50) (v := x2_2) C (Option.some.inj h) rfl hw dX10_entryFor_50
      · have h := iff' hc_4 h
        refine lv_aload_n (pc := 12) hx hb dX10_entryFor_12 rfl (lv_at hl 2 rfl) ?_
        refine gf_X10_26 (pc := 13) C hw 0 rfl rfl dX10_entryFor_13 ?_
        refine lv_iload_n (pc := 16) hx hb dX10_entryFor_16 rfl (lv_at hl 0 rfl) ?_
        obtain ⟨hi_5, h⟩ := og_at h
        refine x_iald (pc := 17) C hw 1 rfl hi_5 dX10_entryFor_17 ?_
        refine lv_iload_n (pc := 18) hx hb dX10_entryFor_18 rfl (lv_at hl 3 rfl) ?_
        obtain ⟨j43_7, ej43_7, h⟩ := jk_at h
        have J43_7 : ∀ (x2_6 : Int32) (ls : Array Slot) (H : Heap) (locs : List Loc), lv_has ls 4 [(3, .int x3_1), (2, .int x2_6), (0, .ref a_this), (1, .int x1)] → Wd D A s (wX10_entryFor cB cI cZ av a_this v_thrown v_size v_begins v_entries v_length v_pressed v_streamFrames v_zeros v_level v_sum v_tail v_isPlayed v_found v_strange v_innerFails v_outerFails v_mostMarks v_unsure v_may v_mocks v_sumThen v_entrySection) H locs → j43_7 x2_6 = some res → W p l e (rmK 0 0) s m ([.ref a_this, .int x1] : List Value).toArray below meth c H locs 0 0 (MQ below (QG D (tyL cB cI cZ) A (fun res : Int32 => some (.int res)) (fun res : Int32 => (wX10_entryFor cB cI cZ av a_this v_thrown v_size v_begins v_entries v_length v_pressed v_streamFrames v_zeros v_level v_sum v_tail v_isPlayed v_found v_strange v_innerFails v_outerFails v_mostMarks v_unsure v_may v_mocks v_sumThen v_entrySection)) res) ([.ref a_this, .int x1] : List Value).toArray s 0 0 A) (F0 m 43 ls []) := by
          intro x2_6 ls H locs hl hw h
          have h := k1_at ej43_7 h
          obtain ⟨x3_8, ex3_8⟩ : ∃ y : Int32, y = x3_1 + 1 := ⟨_, rfl⟩
          have h := nm_at ex3_8 h
          refine lv_iinc (pc := 43) (v := x3_8) (lv' := [(3, .int x3_8), (2, .int x2_6), (0, .ref a_this), (1, .int x1)]) hx hb dX10_entryFor_43 hl (k := 0) rfl (by rw [ex3_8]; rfl) (by decide) rfl (fun ls hl => ?_)
          refine lv_goto (pc := 46) (tgt := 4) hx hb dX10_entryFor_46 (by decide) ?_
          exact ih4_3 x3_8 x2_6 ls _ _ (lv_sub hl [0, 1, 2, 3] rfl) hw h
        refine lv_icmp_gt (pc := 19) (tgt := 43) hx hb dX10_entryFor_19 (by decide) (fun hc_9 => ?_) (fun hc_9 => ?_)
        · have h := ift hc_9 h
          exact J43_7 x2_2 ls _ _ (lv_sub hl [0, 1, 2, 3] rfl) hw h
        · have h := iff' hc_9 h
          refine lv_iload_n (pc := 22) hx hb dX10_entryFor_22 rfl (lv_at hl 1 rfl) ?_
          obtain ⟨j41_10, ej41_10, h⟩ := jk_at h
          have J41_10 : ∀  (ls : Array Slot) (H : Heap) (locs : List Loc), lv_has ls 4 [(3, .int x3_1), (0, .ref a_this), (1, .int x1)] → Wd D A s (wX10_entryFor cB cI cZ av a_this v_thrown v_size v_begins v_entries v_length v_pressed v_streamFrames v_zeros v_level v_sum v_tail v_isPlayed v_found v_strange v_innerFails v_outerFails v_mostMarks v_unsure v_may v_mocks v_sumThen v_entrySection) H locs → j41_10 = some res → W p l e (rmK 0 0) s m ([.ref a_this, .int x1] : List Value).toArray below meth c H locs 0 0 (MQ below (QG D (tyL cB cI cZ) A (fun res : Int32 => some (.int res)) (fun res : Int32 => (wX10_entryFor cB cI cZ av a_this v_thrown v_size v_begins v_entries v_length v_pressed v_streamFrames v_zeros v_level v_sum v_tail v_isPlayed v_found v_strange v_innerFails v_outerFails v_mostMarks v_unsure v_may v_mocks v_sumThen v_entrySection)) res) ([.ref a_this, .int x1] : List Value).toArray s 0 0 A) (F0 m 41 ls []) := by
            intro  ls H locs hl hw h
            have h := k0_at ej41_10 h
            refine lv_iload_n (pc := 41) hx hb dX10_entryFor_41 rfl (lv_at hl 0 rfl) ?_
            refine lv_istore_n (pc := 42) (lv' := [(2, .int x3_1), (3, .int x3_1), (0, .ref a_this), (1, .int x1)]) hx hb dX10_entryFor_42 rfl hl (by decide) rfl (fun ls hl => ?_)
            exact J43_7 x3_1 ls _ _ (lv_sub hl [1, 0, 2, 3] rfl) hw h
          refine lv_if_lt (pc := 23) (tgt := 41) hx hb dX10_entryFor_23 (by decide) (fun hc_11 => ?_) (fun hc_11 => ?_)
          · have h := ift hc_11 h
            exact J41_10  ls _ _ (lv_sub hl [0, 2, 3] rfl) hw h
          · have h := iff' hc_11 h
            refine lv_aload_n (pc := 26) hx hb dX10_entryFor_26 rfl (lv_at hl 2 rfl) ?_
            refine gf_X10_26 (pc := 27) C hw 0 rfl rfl dX10_entryFor_27 ?_
            refine lv_iload_n (pc := 30) hx hb dX10_entryFor_30 rfl (lv_at hl 0 rfl) ?_
            obtain ⟨hi_12, h⟩ := og_at h
            refine x_iald (pc := 31) C hw 1 rfl hi_12 dX10_entryFor_31 ?_
            refine lv_aload_n (pc := 32) hx hb dX10_entryFor_32 rfl (lv_at hl 2 rfl) ?_
            refine gf_X10_26 (pc := 33) C hw 0 rfl rfl dX10_entryFor_33 ?_
            refine lv_iload_n (pc := 36) hx hb dX10_entryFor_36 rfl (lv_at hl 1 rfl) ?_
            obtain ⟨hi_13, h⟩ := og_at h
            refine x_iald (pc := 37) C hw 1 rfl hi_13 dX10_entryFor_37 ?_
            refine lv_icmp_lt (pc := 38) (tgt := 43) hx hb dX10_entryFor_38 (by decide) (fun hc_14 => ?_) (fun hc_14 => ?_)
            · have h := ift hc_14 h
              exact J43_7 x2_2 ls _ _ (lv_sub hl [0, 1, 2, 3] rfl) hw h
            · have h := iff' hc_14 h
              exact J41_10  ls _ _ (lv_sub hl [0, 2, 3] rfl) hw h
  exact Lih4_3 FU 0 (-1) ls _ _ (lv_sub hl [0, 1, 2, 3] rfl) hw h
def wX10_trackOf (cB cI cZ : ClassId) (av : Nat → Nat) (a_this : Nat) (v_thrown : Int32) (v_size : Int32) (v_begins : Int32) (v_entries : Int32) (v_length : Int32) (v_pressed : Int32) (v_streamFrames : Int32) (v_zeros : Int32) (v_level : Int32) (v_sum : Int32) (v_tail : Int32) (v_isPlayed : Int32) (v_found : Int32) (v_strange : Int32) (v_innerFails : Int32) (v_outerFails : Int32) (v_mostMarks : Int32) (v_unsure : Int32) (v_may : Int32) (v_mocks : Int32) (v_sumThen : Int32) (v_entrySection : Nat → Int32) (v_entryTrack : Nat → Int32) : va_W := [oX10 a_this av v_thrown v_size v_begins v_entries v_length v_pressed v_streamFrames v_zeros v_level v_sum v_tail v_isPlayed v_found v_strange v_innerFails v_outerFails v_mostMarks v_unsure v_may v_mocks v_sumThen, ((av 9), .inl (cI, 20, .inl v_entrySection)), ((av 11), .inl (cI, 20, .inl v_entryTrack))]
def fX10_trackOf (v_entries : Int32) (v_entrySection : Nat → Int32) (v_entryTrack : Nat → Int32) (x1 : Int32) : Option (Int32) := ob1 (fX10_entryFor v_entries v_entrySection x1) fun r_1 => if 0 ≤ r_1 then ob1 (fX10_entryFor v_entries v_entrySection x1) fun r_4 => og (ixb r_4 20) (some (v_entryTrack (Int32.toNatClampNeg r_4))) else some 1
set_option maxHeartbeats 4000000 in
set_option maxRecDepth 100000 in
theorem ct_X10_trackOf (l : Launch) (D : va_G) (cB cI cZ : ClassId) (tw : Nat) (av : Nat → Nat) (a_this : Nat) (v_thrown : Int32) (v_size : Int32) (v_begins : Int32) (v_entries : Int32) (v_length : Int32) (v_pressed : Int32) (v_streamFrames : Int32) (v_zeros : Int32) (v_level : Int32) (v_sum : Int32) (v_tail : Int32) (v_isPlayed : Int32) (v_found : Int32) (v_strange : Int32) (v_innerFails : Int32) (v_outerFails : Int32) (v_mostMarks : Int32) (v_unsure : Int32) (v_may : Int32) (v_mocks : Int32) (v_sumThen : Int32) (v_entrySection : Nat → Int32) (v_entryTrack : Nat → Int32) (x1 : Int32) (res : Int32) (h : fX10_trackOf v_entries v_entrySection v_entryTrack x1 = some res) : Ctr l yX10_trackOf cX10_trackOf 2 (some .int) (rmK 1 23) D (tyL cB cI cZ) tw [.ref a_this, .int x1] (wX10_trackOf cB cI cZ av a_this v_thrown v_size v_begins v_entries v_length v_pressed v_streamFrames v_zeros v_level v_sum v_tail v_isPlayed v_found v_strange v_innerFails v_outerFails v_mostMarks v_unsure v_may v_mocks v_sumThen v_entrySection v_entryTrack) (fun res : Int32 => some (.int res)) (fun res : Int32 => (wX10_trackOf cB cI cZ av a_this v_thrown v_size v_begins v_entries v_length v_pressed v_streamFrames v_zeros v_level v_sum v_tail v_isPlayed v_found v_strange v_innerFails v_outerFails v_mostMarks v_unsure v_may v_mocks v_sumThen v_entrySection v_entryTrack)) res := by
  refine ctr_of RX10 (by decide) rfl (Nat.le_of_ble_eq_true rfl) ?_
  intro p e s m below meth c A C hw ls hl
  have hx := C.1
  have hb := C.2.1
  have hl : lv_has ls 2 [(0, .ref a_this), (1, .int x1)] := hl
  unfold fX10_trackOf at h
  refine lv_aload_n (pc := 0) hx hb dX10_trackOf_0 rfl (lv_at hl 0 rfl) ?_
  refine lv_iload_n (pc := 1) hx hb dX10_trackOf_1 rfl (lv_at hl 1 rfl) ?_
  obtain ⟨r_1, hq_2, h⟩ := ob1_at h
  refine x_callV (pc := 2) (rest := []) (stk := [.int r_1]) (wX10_trackOf cB cI cZ av a_this v_thrown v_size v_begins v_entries v_length v_pressed v_streamFrames v_zeros v_level v_sum v_tail v_isPlayed v_found v_strange v_innerFails v_outerFails v_mostMarks v_unsure v_may v_mocks v_sumThen v_entrySection v_entryTrack) C hw (ct_X10_entryFor l D cB cI cZ tw av a_this v_thrown v_size v_begins v_entries v_length v_pressed v_streamFrames v_zeros v_level v_sum v_tail v_isPlayed v_found v_strange v_innerFails v_outerFails v_mostMarks v_unsure v_may v_mocks v_sumThen v_entrySection x1 r_1 hq_2) cal_X10_entryFor tw_1286 (q0 := 0) rfl rfl [0, 1] [2] 3 [((av 11), .inl (cI, 20, .inl v_entryTrack))] rfl rfl rfl rfl rfl rfl rfl rfl rfl rfl rfl (Nat.le_of_ble_eq_true rfl) hl.1 ⟨Nat.le_of_ble_eq_true rfl, Nat.le_of_ble_eq_true rfl⟩ ⟨Nat.zero_le _, Nat.zero_le _⟩ dX10_trackOf_2 (fun H locs hw => ?_)
  refine lv_if_ge (pc := 5) (tgt := 12) hx hb dX10_trackOf_5 (by decide) (fun hc_3 => ?_) (fun hc_3 => ?_)
  · have h := ift hc_3 h
    refine lv_aload_n (pc := 12) hx hb dX10_trackOf_12 rfl (lv_at hl 0 rfl) ?_
    refine gf_X10_32 (pc := 13) C hw 0 rfl rfl dX10_trackOf_13 ?_
    refine lv_aload_n (pc := 16) hx hb dX10_trackOf_16 rfl (lv_at hl 0 rfl) ?_
    refine lv_iload_n (pc := 17) hx hb dX10_trackOf_17 rfl (lv_at hl 1 rfl) ?_
    obtain ⟨r_4, hq_5, h⟩ := ob1_at h
    refine x_callV (pc := 18) (rest := [.ref (av 11)]) (stk := [.int r_4, .ref (av 11)]) (wX10_trackOf cB cI cZ av a_this v_thrown v_size v_begins v_entries v_length v_pressed v_streamFrames v_zeros v_level v_sum v_tail v_isPlayed v_found v_strange v_innerFails v_outerFails v_mostMarks v_unsure v_may v_mocks v_sumThen v_entrySection v_entryTrack) C hw (ct_X10_entryFor l D cB cI cZ tw av a_this v_thrown v_size v_begins v_entries v_length v_pressed v_streamFrames v_zeros v_level v_sum v_tail v_isPlayed v_found v_strange v_innerFails v_outerFails v_mostMarks v_unsure v_may v_mocks v_sumThen v_entrySection x1 r_4 hq_5) cal_X10_entryFor tw_1286 (q0 := 0) rfl rfl [0, 1] [2] 3 [((av 11), .inl (cI, 20, .inl v_entryTrack))] rfl rfl rfl rfl rfl rfl rfl rfl rfl rfl rfl (Nat.le_of_ble_eq_true rfl) hl.1 ⟨Nat.le_of_ble_eq_true rfl, Nat.le_of_ble_eq_true rfl⟩ ⟨Nat.zero_le _, Nat.zero_le _⟩ dX10_trackOf_18 (fun H locs hw => ?_)
    obtain ⟨hi_6, h⟩ := og_at h
    refine x_iald (pc := 21) C hw 2 rfl hi_6 dX10_trackOf_21 ?_
    exact x_iret (pc := 22) (v := (v_entryTrack (Int32.toNatClampNeg r_4))) C (Option.some.inj h) rfl hw dX10_trackOf_22
  · have h := iff' hc_3 h
    refine lv_iconst (pc := 8) (v := 1) hx hb dX10_trackOf_8 (by decide) ?_
    refine lv_goto (pc := 9) (tgt := 22) hx hb dX10_trackOf_9 (by decide) ?_
    exact x_iret (pc := 22) (v := 1) C (Option.some.inj h) rfl hw dX10_trackOf_22
def wX10_indexOf (cB cI cZ : ClassId) (av : Nat → Nat) (a_this : Nat) (v_thrown : Int32) (v_size : Int32) (v_begins : Int32) (v_entries : Int32) (v_length : Int32) (v_pressed : Int32) (v_streamFrames : Int32) (v_zeros : Int32) (v_level : Int32) (v_sum : Int32) (v_tail : Int32) (v_isPlayed : Int32) (v_found : Int32) (v_strange : Int32) (v_innerFails : Int32) (v_outerFails : Int32) (v_mostMarks : Int32) (v_unsure : Int32) (v_may : Int32) (v_mocks : Int32) (v_sumThen : Int32) (v_entryIndex : Nat → Int32) (v_entrySection : Nat → Int32) : va_W := [oX10 a_this av v_thrown v_size v_begins v_entries v_length v_pressed v_streamFrames v_zeros v_level v_sum v_tail v_isPlayed v_found v_strange v_innerFails v_outerFails v_mostMarks v_unsure v_may v_mocks v_sumThen, ((av 12), .inl (cI, 20, .inl v_entryIndex)), ((av 9), .inl (cI, 20, .inl v_entrySection))]
def fX10_indexOf (v_entries : Int32) (v_entryIndex : Nat → Int32) (v_entrySection : Nat → Int32) (x1 : Int32) : Option (Int32) := ob1 (fX10_entryFor v_entries v_entrySection x1) fun r_1 => if 0 ≤ r_1 then ob1 (fX10_entryFor v_entries v_entrySection x1) fun r_4 => og (ixb r_4 20) (some (v_entryIndex (Int32.toNatClampNeg r_4))) else some 1
set_option maxHeartbeats 4000000 in
set_option maxRecDepth 100000 in
theorem ct_X10_indexOf (l : Launch) (D : va_G) (cB cI cZ : ClassId) (tw : Nat) (av : Nat → Nat) (a_this : Nat) (v_thrown : Int32) (v_size : Int32) (v_begins : Int32) (v_entries : Int32) (v_length : Int32) (v_pressed : Int32) (v_streamFrames : Int32) (v_zeros : Int32) (v_level : Int32) (v_sum : Int32) (v_tail : Int32) (v_isPlayed : Int32) (v_found : Int32) (v_strange : Int32) (v_innerFails : Int32) (v_outerFails : Int32) (v_mostMarks : Int32) (v_unsure : Int32) (v_may : Int32) (v_mocks : Int32) (v_sumThen : Int32) (v_entryIndex : Nat → Int32) (v_entrySection : Nat → Int32) (x1 : Int32) (res : Int32) (h : fX10_indexOf v_entries v_entryIndex v_entrySection x1 = some res) : Ctr l yX10_indexOf cX10_indexOf 2 (some .int) (rmK 1 23) D (tyL cB cI cZ) tw [.ref a_this, .int x1] (wX10_indexOf cB cI cZ av a_this v_thrown v_size v_begins v_entries v_length v_pressed v_streamFrames v_zeros v_level v_sum v_tail v_isPlayed v_found v_strange v_innerFails v_outerFails v_mostMarks v_unsure v_may v_mocks v_sumThen v_entryIndex v_entrySection) (fun res : Int32 => some (.int res)) (fun res : Int32 => (wX10_indexOf cB cI cZ av a_this v_thrown v_size v_begins v_entries v_length v_pressed v_streamFrames v_zeros v_level v_sum v_tail v_isPlayed v_found v_strange v_innerFails v_outerFails v_mostMarks v_unsure v_may v_mocks v_sumThen v_entryIndex v_entrySection)) res := by
  refine ctr_of RX10 (by decide) rfl (Nat.le_of_ble_eq_true rfl) ?_
  intro p e s m below meth c A C hw ls hl
  have hx := C.1
  have hb := C.2.1
  have hl : lv_has ls 2 [(0, .ref a_this), (1, .int x1)] := hl
  unfold fX10_indexOf at h
  refine lv_aload_n (pc := 0) hx hb dX10_indexOf_0 rfl (lv_at hl 0 rfl) ?_
  refine lv_iload_n (pc := 1) hx hb dX10_indexOf_1 rfl (lv_at hl 1 rfl) ?_
  obtain ⟨r_1, hq_2, h⟩ := ob1_at h
  refine x_callV (pc := 2) (rest := []) (stk := [.int r_1]) (wX10_indexOf cB cI cZ av a_this v_thrown v_size v_begins v_entries v_length v_pressed v_streamFrames v_zeros v_level v_sum v_tail v_isPlayed v_found v_strange v_innerFails v_outerFails v_mostMarks v_unsure v_may v_mocks v_sumThen v_entryIndex v_entrySection) C hw (ct_X10_entryFor l D cB cI cZ tw av a_this v_thrown v_size v_begins v_entries v_length v_pressed v_streamFrames v_zeros v_level v_sum v_tail v_isPlayed v_found v_strange v_innerFails v_outerFails v_mostMarks v_unsure v_may v_mocks v_sumThen v_entrySection x1 r_1 hq_2) cal_X10_entryFor tw_1286 (q0 := 0) rfl rfl [0, 2] [1] 3 [((av 12), .inl (cI, 20, .inl v_entryIndex))] rfl rfl rfl rfl rfl rfl rfl rfl rfl rfl rfl (Nat.le_of_ble_eq_true rfl) hl.1 ⟨Nat.le_of_ble_eq_true rfl, Nat.le_of_ble_eq_true rfl⟩ ⟨Nat.zero_le _, Nat.zero_le _⟩ dX10_indexOf_2 (fun H locs hw => ?_)
  refine lv_if_ge (pc := 5) (tgt := 12) hx hb dX10_indexOf_5 (by decide) (fun hc_3 => ?_) (fun hc_3 => ?_)
  · have h := ift hc_3 h
    refine lv_aload_n (pc := 12) hx hb dX10_indexOf_12 rfl (lv_at hl 0 rfl) ?_
    refine gf_X10_35 (pc := 13) C hw 0 rfl rfl dX10_indexOf_13 ?_
    refine lv_aload_n (pc := 16) hx hb dX10_indexOf_16 rfl (lv_at hl 0 rfl) ?_
    refine lv_iload_n (pc := 17) hx hb dX10_indexOf_17 rfl (lv_at hl 1 rfl) ?_
    obtain ⟨r_4, hq_5, h⟩ := ob1_at h
    refine x_callV (pc := 18) (rest := [.ref (av 12)]) (stk := [.int r_4, .ref (av 12)]) (wX10_indexOf cB cI cZ av a_this v_thrown v_size v_begins v_entries v_length v_pressed v_streamFrames v_zeros v_level v_sum v_tail v_isPlayed v_found v_strange v_innerFails v_outerFails v_mostMarks v_unsure v_may v_mocks v_sumThen v_entryIndex v_entrySection) C hw (ct_X10_entryFor l D cB cI cZ tw av a_this v_thrown v_size v_begins v_entries v_length v_pressed v_streamFrames v_zeros v_level v_sum v_tail v_isPlayed v_found v_strange v_innerFails v_outerFails v_mostMarks v_unsure v_may v_mocks v_sumThen v_entrySection x1 r_4 hq_5) cal_X10_entryFor tw_1286 (q0 := 0) rfl rfl [0, 2] [1] 3 [((av 12), .inl (cI, 20, .inl v_entryIndex))] rfl rfl rfl rfl rfl rfl rfl rfl rfl rfl rfl (Nat.le_of_ble_eq_true rfl) hl.1 ⟨Nat.le_of_ble_eq_true rfl, Nat.le_of_ble_eq_true rfl⟩ ⟨Nat.zero_le _, Nat.zero_le _⟩ dX10_indexOf_18 (fun H locs hw => ?_)
    obtain ⟨hi_6, h⟩ := og_at h
    refine x_iald (pc := 21) C hw 1 rfl hi_6 dX10_indexOf_21 ?_
    exact x_iret (pc := 22) (v := (v_entryIndex (Int32.toNatClampNeg r_4))) C (Option.some.inj h) rfl hw dX10_indexOf_22
  · have h := iff' hc_3 h
    refine lv_iconst (pc := 8) (v := 1) hx hb dX10_indexOf_8 (by decide) ?_
    refine lv_goto (pc := 9) (tgt := 22) hx hb dX10_indexOf_9 (by decide) ?_
    exact x_iret (pc := 22) (v := 1) C (Option.some.inj h) rfl hw dX10_indexOf_22
def wX10_timeOf (cB cI cZ : ClassId) (av : Nat → Nat) (a_this : Nat) (v_thrown : Int32) (v_size : Int32) (v_begins : Int32) (v_entries : Int32) (v_length : Int32) (v_pressed : Int32) (v_streamFrames : Int32) (v_zeros : Int32) (v_level : Int32) (v_sum : Int32) (v_tail : Int32) (v_isPlayed : Int32) (v_found : Int32) (v_strange : Int32) (v_innerFails : Int32) (v_outerFails : Int32) (v_mostMarks : Int32) (v_unsure : Int32) (v_may : Int32) (v_mocks : Int32) (v_sumThen : Int32) (v_entryIndex : Nat → Int32) (v_entrySection : Nat → Int32) (v_entryTrack : Nat → Int32) : va_W := [oX10 a_this av v_thrown v_size v_begins v_entries v_length v_pressed v_streamFrames v_zeros v_level v_sum v_tail v_isPlayed v_found v_strange v_innerFails v_outerFails v_mostMarks v_unsure v_may v_mocks v_sumThen, ((av 12), .inl (cI, 20, .inl v_entryIndex)), ((av 9), .inl (cI, 20, .inl v_entrySection)), ((av 11), .inl (cI, 20, .inl v_entryTrack))]
def fX10_timeOf_L55 (v_pressed : Int32) (x1 : Int32) (v_entries : Int32) (v_entrySection : Nat → Int32) (v_entryTrack : Nat → Int32) (v_entryIndex : Nat → Int32) : Nat → Int32 → Option (Int32)
  | 0, _ => none
  | F55_5 + 1, x2_4 => if ((v_pressed + (97 : Int32)) / (98 : Int32)) ≤ (x1 + x2_4) then some x2_4 else ob1 (fX10_trackOf v_entries v_entrySection v_entryTrack (x1 + x2_4)) fun r_7 => ob1 (fX10_trackOf v_entries v_entrySection v_entryTrack x1) fun r_9 => if r_7 = r_9 then ob1 (fX10_indexOf v_entries v_entryIndex v_entrySection (x1 + x2_4)) fun r_12 => if r_12 = 0 then nm (x2_4 + 1 : Int32) fun x2_15 => fX10_timeOf_L55 v_pressed x1 v_entries v_entrySection v_entryTrack v_entryIndex F55_5 x2_15 else some x2_4 else some x2_4
def fX10_timeOf_L10 (x1 : Int32) (v_entries : Int32) (v_entrySection : Nat → Int32) (v_entryTrack : Nat → Int32) (v_entryIndex : Nat → Int32) : Nat → Int32 → Option (Int32)
  | 0, _ => none
  | F10_17 + 1, x2_16 => if ((x1 - x2_16) - (1 : Int32)) < 0 then some x2_16 else ob1 (fX10_trackOf v_entries v_entrySection v_entryTrack ((x1 - x2_16) - (1 : Int32))) fun r_19 => ob1 (fX10_trackOf v_entries v_entrySection v_entryTrack x1) fun r_21 => if r_19 = r_21 then ob1 (fX10_indexOf v_entries v_entryIndex v_entrySection ((x1 - x2_16) - (1 : Int32))) fun r_24 => if r_24 ≤ 0 then some x2_16 else nm (x2_16 + 1 : Int32) fun x2_27 => fX10_timeOf_L10 x1 v_entries v_entrySection v_entryTrack v_entryIndex F10_17 x2_27 else some x2_16
def fX10_timeOf (v_entries : Int32) (v_pressed : Int32) (v_entryIndex : Nat → Int32) (v_entrySection : Nat → Int32) (v_entryTrack : Nat → Int32) (x1 : Int32) : Option (Int32) := ob1 (fX10_indexOf v_entries v_entryIndex v_entrySection x1) fun r_1 => if r_1 ≤ 0 then fX10_timeOf_L55 v_pressed x1 v_entries v_entrySection v_entryTrack v_entryIndex FU 0 else fX10_timeOf_L10 x1 v_entries v_entrySection v_entryTrack v_entryIndex FU 0
set_option maxHeartbeats 4000000 in
set_option maxRecDepth 100000 in
theorem ct_X10_timeOf (l : Launch) (D : va_G) (cB cI cZ : ClassId) (tw : Nat) (av : Nat → Nat) (a_this : Nat) (v_thrown : Int32) (v_size : Int32) (v_begins : Int32) (v_entries : Int32) (v_length : Int32) (v_pressed : Int32) (v_streamFrames : Int32) (v_zeros : Int32) (v_level : Int32) (v_sum : Int32) (v_tail : Int32) (v_isPlayed : Int32) (v_found : Int32) (v_strange : Int32) (v_innerFails : Int32) (v_outerFails : Int32) (v_mostMarks : Int32) (v_unsure : Int32) (v_may : Int32) (v_mocks : Int32) (v_sumThen : Int32) (v_entryIndex : Nat → Int32) (v_entrySection : Nat → Int32) (v_entryTrack : Nat → Int32) (x1 : Int32) (res : Int32) (h : fX10_timeOf v_entries v_pressed v_entryIndex v_entrySection v_entryTrack x1 = some res) : Ctr l yX10_timeOf cX10_timeOf 3 (some .int) (rmK 2 44) D (tyL cB cI cZ) tw [.ref a_this, .int x1] (wX10_timeOf cB cI cZ av a_this v_thrown v_size v_begins v_entries v_length v_pressed v_streamFrames v_zeros v_level v_sum v_tail v_isPlayed v_found v_strange v_innerFails v_outerFails v_mostMarks v_unsure v_may v_mocks v_sumThen v_entryIndex v_entrySection v_entryTrack) (fun res : Int32 => some (.int res)) (fun res : Int32 => (wX10_timeOf cB cI cZ av a_this v_thrown v_size v_begins v_entries v_length v_pressed v_streamFrames v_zeros v_level v_sum v_tail v_isPlayed v_found v_strange v_innerFails v_outerFails v_mostMarks v_unsure v_may v_mocks v_sumThen v_entryIndex v_entrySection v_entryTrack)) res := by
  refine ctr_of RX10 (by decide) rfl (Nat.le_of_ble_eq_true rfl) ?_
  intro p e s m below meth c A C hw ls hl
  have hx := C.1
  have hb := C.2.1
  have hl : lv_has ls 3 [(0, .ref a_this), (1, .int x1)] := hl
  unfold fX10_timeOf at h
  refine lv_iconst (pc := 0) (v := 0) hx hb dX10_timeOf_0 (by decide) ?_
  refine lv_istore_n (pc := 1) (lv' := [(2, .int 0), (0, .ref a_this), (1, .int x1)]) hx hb dX10_timeOf_1 rfl hl (by decide) rfl (fun ls hl => ?_)
  refine lv_aload_n (pc := 2) hx hb dX10_timeOf_2 rfl (lv_at hl 1 rfl) ?_
  refine lv_iload_n (pc := 3) hx hb dX10_timeOf_3 rfl (lv_at hl 2 rfl) ?_
  obtain ⟨r_1, hq_2, h⟩ := ob1_at h
  refine x_callV (pc := 4) (rest := []) (stk := [.int r_1]) (wX10_timeOf cB cI cZ av a_this v_thrown v_size v_begins v_entries v_length v_pressed v_streamFrames v_zeros v_level v_sum v_tail v_isPlayed v_found v_strange v_innerFails v_outerFails v_mostMarks v_unsure v_may v_mocks v_sumThen v_entryIndex v_entrySection v_entryTrack) C hw (ct_X10_indexOf l D cB cI cZ tw av a_this v_thrown v_size v_begins v_entries v_length v_pressed v_streamFrames v_zeros v_level v_sum v_tail v_isPlayed v_found v_strange v_innerFails v_outerFails v_mostMarks v_unsure v_may v_mocks v_sumThen v_entryIndex v_entrySection x1 r_1 hq_2) cal_X10_indexOf tw_1298 (q0 := 0) rfl rfl [0, 1, 2] [3] 4 [((av 11), .inl (cI, 20, .inl v_entryTrack))] rfl rfl rfl rfl rfl rfl rfl rfl rfl rfl rfl (Nat.le_of_ble_eq_true rfl) hl.1 ⟨Nat.le_of_ble_eq_true rfl, Nat.le_of_ble_eq_true rfl⟩ ⟨Nat.zero_le _, Nat.zero_le _⟩ dX10_timeOf_4 (fun H locs hw => ?_)
  refine lv_if_le (pc := 7) (tgt := 55) hx hb dX10_timeOf_7 (by decide) (fun hc_3 => ?_) (fun hc_3 => ?_)
  · have h := ift hc_3 h
    have Lih55_5 : ∀ (F : Nat) (x2_4 : Int32) (ls : Array Slot) (H : Heap) (locs : List Loc), lv_has ls 3 [(2, .int x2_4), (0, .ref a_this), (1, .int x1)] → Wd D A s (wX10_timeOf cB cI cZ av a_this v_thrown v_size v_begins v_entries v_length v_pressed v_streamFrames v_zeros v_level v_sum v_tail v_isPlayed v_found v_strange v_innerFails v_outerFails v_mostMarks v_unsure v_may v_mocks v_sumThen v_entryIndex v_entrySection v_entryTrack) H locs → fX10_timeOf_L55 v_pressed x1 v_entries v_entrySection v_entryTrack v_entryIndex F x2_4 = some res → W p l e (rmK 2 44) s m ([.ref a_this, .int x1] : List Value).toArray below meth c H locs 0 0 (MQ below (QG D (tyL cB cI cZ) A (fun res : Int32 => some (.int res)) (fun res : Int32 => (wX10_timeOf cB cI cZ av a_this v_thrown v_size v_begins v_entries v_length v_pressed v_streamFrames v_zeros v_level v_sum v_tail v_isPlayed v_found v_strange v_innerFails v_outerFails v_mostMarks v_unsure v_may v_mocks v_sumThen v_entryIndex v_entrySection v_entryTrack)) res) ([.ref a_this, .int x1] : List Value).toArray s 0 0 A) (F0 m 55 ls []) := by
      intro F
      induction F with
      | zero => intro x2_4 ls H locs hl hw h; rw [fX10_timeOf_L55.eq_1] at h; cases h
      | succ F55_5 ih55_5 =>
        intro x2_4 ls H locs hl hw h
        rw [fX10_timeOf_L55.eq_2] at h
        refine lv_iload_n (pc := 55) hx hb dX10_timeOf_55 rfl (lv_at hl 2 rfl) ?_
        refine lv_iload_n (pc := 56) hx hb dX10_timeOf_56 rfl (lv_at hl 0 rfl) ?_
        refine lv_iadd (pc := 57) hx hb dX10_timeOf_57 ?_
        refine lv_aload_n (pc := 58) hx hb dX10_timeOf_58 rfl (lv_at hl 1 rfl) ?_
        refine gf_X10_231 (pc := 59) C hw 0 rfl rfl dX10_timeOf_59 ?_
        refine lv_bipush (pc := 62) (v := 97) hx hb dX10_timeOf_62 (by decide) ?_
        refine lv_iadd (pc := 64) hx hb dX10_timeOf_64 ?_
        refine lv_bipush (pc := 65) (v := 98) hx hb dX10_timeOf_65 (by decide) ?_
        refine lv_idiv (pc := 67) hx hb dX10_timeOf_67 (by decide) ?_
        refine lv_icmp_ge (pc := 68) (tgt := 102) hx hb dX10_timeOf_68 (by decide) (fun hc_6 => ?_) (fun hc_6 => ?_)
        · have h := ift hc_6 h
          refine lv_iload_n (pc := 102) hx hb dX10_timeOf_102 rfl (lv_at hl 0 rfl) ?_
          exact x_iret (pc := 103) (v := x2_4) C (Option.some.inj h) rfl hw dX10_timeOf_103
        · have h := iff' hc_6 h
          refine lv_aload_n (pc := 71) hx hb dX10_timeOf_71 rfl (lv_at hl 1 rfl) ?_
          refine lv_iload_n (pc := 72) hx hb dX10_timeOf_72 rfl (lv_at hl 2 rfl) ?_
          refine lv_iload_n (pc := 73) hx hb dX10_timeOf_73 rfl (lv_at hl 0 rfl) ?_
          refine lv_iadd (pc := 74) hx hb dX10_timeOf_74 ?_
          obtain ⟨r_7, hq_8, h⟩ := ob1_at h
          refine x_callV (pc := 75) (rest := []) (stk := [.int r_7]) (wX10_timeOf cB cI cZ av a_this v_thrown v_size v_begins v_entries v_length v_pressed v_streamFrames v_zeros v_level v_sum v_tail v_isPlayed v_found v_strange v_innerFails v_outerFails v_mostMarks v_unsure v_may v_mocks v_sumThen v_entryIndex v_entrySection v_entryTrack) C hw (ct_X10_trackOf l D cB cI cZ tw av a_this v_thrown v_size v_begins v_entries v_length v_pressed v_streamFrames v_zeros v_level v_sum v_tail v_isPlayed v_found v_strange v_innerFails v_outerFails v_mostMarks v_unsure v_may v_mocks v_sumThen v_entrySection v_entryTrack (x1 + x2_4) r_7 hq_8) cal_X10_trackOf tw_1290 (q0 := 0) rfl rfl [0, 2, 3] [1] 4 [((av 12), .inl (cI, 20, .inl v_entryIndex))] rfl rfl rfl rfl rfl rfl rfl rfl rfl rfl rfl (Nat.le_of_ble_eq_true rfl) hl.1 ⟨Nat.le_of_ble_eq_true rfl, Nat.le_of_ble_eq_true rfl⟩ ⟨Nat.zero_le _, Nat.zero_le _⟩ dX10_timeOf_75 (fun H locs hw => ?_)
          refine lv_aload_n (pc := 78) hx hb dX10_timeOf_78 rfl (lv_at hl 1 rfl) ?_
          refine lv_iload_n (pc := 79) hx hb dX10_timeOf_79 rfl (lv_at hl 2 rfl) ?_
          obtain ⟨r_9, hq_10, h⟩ := ob1_at h
          refine x_callV (pc := 80) (rest := [.int r_7]) (stk := [.int r_9, .int r_7]) (wX10_timeOf cB cI cZ av a_this v_thrown v_size v_begins v_entries v_length v_pressed v_streamFrames v_zeros v_level v_sum v_tail v_isPlayed v_found v_strange v_innerFails v_outerFails v_mostMarks v_unsure v_may v_mocks v_sumThen v_entryIndex v_entrySection v_entryTrack) C hw (ct_X10_trackOf l D cB cI cZ tw av a_this v_thrown v_size v_begins v_entries v_length v_pressed v_streamFrames v_zeros v_level v_sum v_tail v_isPlayed v_found v_strange v_innerFails v_outerFails v_mostMarks v_unsure v_may v_mocks v_sumThen v_entrySection v_entryTrack x1 r_9 hq_10) cal_X10_trackOf tw_1290 (q0 := 0) rfl rfl [0, 2, 3] [1] 4 [((av 12), .inl (cI, 20, .inl v_entryIndex))] rfl rfl rfl rfl rfl rfl rfl rfl rfl rfl rfl (Nat.le_of_ble_eq_true rfl) hl.1 ⟨Nat.le_of_ble_eq_true rfl, Nat.le_of_ble_eq_true rfl⟩ ⟨Nat.zero_le _, Nat.zero_le _⟩ dX10_timeOf_80 (fun H locs hw => ?_)
          refine lv_icmp_ne (pc := 83) (tgt := 102) hx hb dX10_timeOf_83 (by decide) (fun hc_11 => ?_) (fun hc_11 => ?_)
          · have h := iff' hc_11 h
            refine lv_iload_n (pc := 102) hx hb dX10_timeOf_102 rfl (lv_at hl 0 rfl) ?_
            exact x_iret (pc := 103) (v := x2_4) C (Option.some.inj h) rfl hw dX10_timeOf_103
          · have h := ift hc_11 h
            refine lv_aload_n (pc := 86) hx hb dX10_timeOf_86 rfl (lv_at hl 1 rfl) ?_
            refine lv_iload_n (pc := 87) hx hb dX10_timeOf_87 rfl (lv_at hl 2 rfl) ?_
            refine lv_iload_n (pc := 88) hx hb dX10_timeOf_88 rfl (lv_at hl 0 rfl) ?_
            refine lv_iadd (pc := 89) hx hb dX10_timeOf_89 ?_
            obtain ⟨r_12, hq_13, h⟩ := ob1_at h
            refine x_callV (pc := 90) (rest := []) (stk := [.int r_12]) (wX10_timeOf cB cI cZ av a_this v_thrown v_size v_begins v_entries v_length v_pressed v_streamFrames v_zeros v_level v_sum v_tail v_isPlayed v_found v_strange v_innerFails v_outerFails v_mostMarks v_unsure v_may v_mocks v_sumThen v_entryIndex v_entrySection v_entryTrack) C hw (ct_X10_indexOf l D cB cI cZ tw av a_this v_thrown v_size v_begins v_entries v_length v_pressed v_streamFrames v_zeros v_level v_sum v_tail v_isPlayed v_found v_strange v_innerFails v_outerFails v_mostMarks v_unsure v_may v_mocks v_sumThen v_entryIndex v_entrySection (x1 + x2_4) r_12 hq_13) cal_X10_indexOf tw_1298 (q0 := 0) rfl rfl [0, 1, 2] [3] 4 [((av 11), .inl (cI, 20, .inl v_entryTrack))] rfl rfl rfl rfl rfl rfl rfl rfl rfl rfl rfl (Nat.le_of_ble_eq_true rfl) hl.1 ⟨Nat.le_of_ble_eq_true rfl, Nat.le_of_ble_eq_true rfl⟩ ⟨Nat.zero_le _, Nat.zero_le _⟩ dX10_timeOf_90 (fun H locs hw => ?_)
            refine lv_if_ne (pc := 93) (tgt := 102) hx hb dX10_timeOf_93 (by decide) (fun hc_14 => ?_) (fun hc_14 => ?_)
            · have h := iff' hc_14 h
              refine lv_iload_n (pc := 102) hx hb dX10_timeOf_102 rfl (lv_at hl 0 rfl) ?_
              exact x_iret (pc := 103) (v := x2_4) C (Option.some.inj h) rfl hw dX10_timeOf_103
            · have h := ift hc_14 h
              obtain ⟨x2_15, ex2_15⟩ : ∃ y : Int32, y = x2_4 + 1 := ⟨_, rfl⟩
              have h := nm_at ex2_15 h
              refine lv_iinc (pc := 96) (v := x2_15) (lv' := [(2, .int x2_15), (0, .ref a_this), (1, .int x1)]) hx hb dX10_timeOf_96 hl (k := 0) rfl (by rw [ex2_15]; rfl) (by decide) rfl (fun ls hl => ?_)
              refine lv_goto (pc := 99) (tgt := 55) hx hb dX10_timeOf_99 (by decide) ?_
              exact ih55_5 x2_15 ls _ _ (lv_sub hl [0, 1, 2] rfl) hw h
    exact Lih55_5 FU 0 ls _ _ (lv_sub hl [0, 1, 2] rfl) hw h
  · have h := iff' hc_3 h
    have Lih10_17 : ∀ (F : Nat) (x2_16 : Int32) (ls : Array Slot) (H : Heap) (locs : List Loc), lv_has ls 3 [(2, .int x2_16), (0, .ref a_this), (1, .int x1)] → Wd D A s (wX10_timeOf cB cI cZ av a_this v_thrown v_size v_begins v_entries v_length v_pressed v_streamFrames v_zeros v_level v_sum v_tail v_isPlayed v_found v_strange v_innerFails v_outerFails v_mostMarks v_unsure v_may v_mocks v_sumThen v_entryIndex v_entrySection v_entryTrack) H locs → fX10_timeOf_L10 x1 v_entries v_entrySection v_entryTrack v_entryIndex F x2_16 = some res → W p l e (rmK 2 44) s m ([.ref a_this, .int x1] : List Value).toArray below meth c H locs 0 0 (MQ below (QG D (tyL cB cI cZ) A (fun res : Int32 => some (.int res)) (fun res : Int32 => (wX10_timeOf cB cI cZ av a_this v_thrown v_size v_begins v_entries v_length v_pressed v_streamFrames v_zeros v_level v_sum v_tail v_isPlayed v_found v_strange v_innerFails v_outerFails v_mostMarks v_unsure v_may v_mocks v_sumThen v_entryIndex v_entrySection v_entryTrack)) res) ([.ref a_this, .int x1] : List Value).toArray s 0 0 A) (F0 m 10 ls []) := by
      intro F
      induction F with
      | zero => intro x2_16 ls H locs hl hw h; rw [fX10_timeOf_L10.eq_1] at h; cases h
      | succ F10_17 ih10_17 =>
        intro x2_16 ls H locs hl hw h
        rw [fX10_timeOf_L10.eq_2] at h
        refine lv_iload_n (pc := 10) hx hb dX10_timeOf_10 rfl (lv_at hl 2 rfl) ?_
        refine lv_iload_n (pc := 11) hx hb dX10_timeOf_11 rfl (lv_at hl 0 rfl) ?_
        refine lv_isub (pc := 12) hx hb dX10_timeOf_12 ?_
        refine lv_iconst (pc := 13) (v := 1) hx hb dX10_timeOf_13 (by decide) ?_
        refine lv_isub (pc := 14) hx hb dX10_timeOf_14 ?_
        refine lv_if_lt (pc := 15) (tgt := 53) hx hb dX10_timeOf_15 (by decide) (fun hc_18 => ?_) (fun hc_18 => ?_)
        · have h := ift hc_18 h
          refine lv_iload_n (pc := 53) hx hb dX10_timeOf_53 rfl (lv_at hl 0 rfl) ?_
          exact x_iret (pc := 54) (v := x2_16) C (Option.some.inj h) rfl hw dX10_timeOf_54
        · have h := iff' hc_18 h
          refine lv_aload_n (pc := 18) hx hb dX10_timeOf_18 rfl (lv_at hl 1 rfl) ?_
          refine lv_iload_n (pc := 19) hx hb dX10_timeOf_19 rfl (lv_at hl 2 rfl) ?_
          refine lv_iload_n (pc := 20) hx hb dX10_timeOf_20 rfl (lv_at hl 0 rfl) ?_
          refine lv_isub (pc := 21) hx hb dX10_timeOf_21 ?_
          refine lv_iconst (pc := 22) (v := 1) hx hb dX10_timeOf_22 (by decide) ?_
          refine lv_isub (pc := 23) hx hb dX10_timeOf_23 ?_
          obtain ⟨r_19, hq_20, h⟩ := ob1_at h
          refine x_callV (pc := 24) (rest := []) (stk := [.int r_19]) (wX10_timeOf cB cI cZ av a_this v_thrown v_size v_begins v_entries v_length v_pressed v_streamFrames v_zeros v_level v_sum v_tail v_isPlayed v_found v_strange v_innerFails v_outerFails v_mostMarks v_unsure v_may v_mocks v_sumThen v_entryIndex v_entrySection v_entryTrack) C hw (ct_X10_trackOf l D cB cI cZ tw av a_this v_thrown v_size v_begins v_entries v_length v_pressed v_streamFrames v_zeros v_level v_sum v_tail v_isPlayed v_found v_strange v_innerFails v_outerFails v_mostMarks v_unsure v_may v_mocks v_sumThen v_entrySection v_entryTrack ((x1 - x2_16) - (1 : Int32)) r_19 hq_20) cal_X10_trackOf tw_1290 (q0 := 0) rfl rfl [0, 2, 3] [1] 4 [((av 12), .inl (cI, 20, .inl v_entryIndex))] rfl rfl rfl rfl rfl rfl rfl rfl rfl rfl rfl (Nat.le_of_ble_eq_true rfl) hl.1 ⟨Nat.le_of_ble_eq_true rfl, Nat.le_of_ble_eq_true rfl⟩ ⟨Nat.zero_le _, Nat.zero_le _⟩ dX10_timeOf_24 (fun H locs hw => ?_)
          refine lv_aload_n (pc := 27) hx hb dX10_timeOf_27 rfl (lv_at hl 1 rfl) ?_
          refine lv_iload_n (pc := 28) hx hb dX10_timeOf_28 rfl (lv_at hl 2 rfl) ?_
          obtain ⟨r_21, hq_22, h⟩ := ob1_at h
          refine x_callV (pc := 29) (rest := [.int r_19]) (stk := [.int r_21, .int r_19]) (wX10_timeOf cB cI cZ av a_this v_thrown v_size v_begins v_entries v_length v_pressed v_streamFrames v_zeros v_level v_sum v_tail v_isPlayed v_found v_strange v_innerFails v_outerFails v_mostMarks v_unsure v_may v_mocks v_sumThen v_entryIndex v_entrySection v_entryTrack) C hw (ct_X10_trackOf l D cB cI cZ tw av a_this v_thrown v_size v_begins v_entries v_length v_pressed v_streamFrames v_zeros v_level v_sum v_tail v_isPlayed v_found v_strange v_innerFails v_outerFails v_mostMarks v_unsure v_may v_mocks v_sumThen v_entrySection v_entryTrack x1 r_21 hq_22) cal_X10_trackOf tw_1290 (q0 := 0) rfl rfl [0, 2, 3] [1] 4 [((av 12), .inl (cI, 20, .inl v_entryIndex))] rfl rfl rfl rfl rfl rfl rfl rfl rfl rfl rfl (Nat.le_of_ble_eq_true rfl) hl.1 ⟨Nat.le_of_ble_eq_true rfl, Nat.le_of_ble_eq_true rfl⟩ ⟨Nat.zero_le _, Nat.zero_le _⟩ dX10_timeOf_29 (fun H locs hw => ?_)
          refine lv_icmp_ne (pc := 32) (tgt := 53) hx hb dX10_timeOf_32 (by decide) (fun hc_23 => ?_) (fun hc_23 => ?_)
          · have h := iff' hc_23 h
            refine lv_iload_n (pc := 53) hx hb dX10_timeOf_53 rfl (lv_at hl 0 rfl) ?_
            exact x_iret (pc := 54) (v := x2_16) C (Option.some.inj h) rfl hw dX10_timeOf_54
          · have h := ift hc_23 h
            refine lv_aload_n (pc := 35) hx hb dX10_timeOf_35 rfl (lv_at hl 1 rfl) ?_
            refine lv_iload_n (pc := 36) hx hb dX10_timeOf_36 rfl (lv_at hl 2 rfl) ?_
            refine lv_iload_n (pc := 37) hx hb dX10_timeOf_37 rfl (lv_at hl 0 rfl) ?_
            refine lv_isub (pc := 38) hx hb dX10_timeOf_38 ?_
            refine lv_iconst (pc := 39) (v := 1) hx hb dX10_timeOf_39 (by decide) ?_
            refine lv_isub (pc := 40) hx hb dX10_timeOf_40 ?_
            obtain ⟨r_24, hq_25, h⟩ := ob1_at h
            refine x_callV (pc := 41) (rest := []) (stk := [.int r_24]) (wX10_timeOf cB cI cZ av a_this v_thrown v_size v_begins v_entries v_length v_pressed v_streamFrames v_zeros v_level v_sum v_tail v_isPlayed v_found v_strange v_innerFails v_outerFails v_mostMarks v_unsure v_may v_mocks v_sumThen v_entryIndex v_entrySection v_entryTrack) C hw (ct_X10_indexOf l D cB cI cZ tw av a_this v_thrown v_size v_begins v_entries v_length v_pressed v_streamFrames v_zeros v_level v_sum v_tail v_isPlayed v_found v_strange v_innerFails v_outerFails v_mostMarks v_unsure v_may v_mocks v_sumThen v_entryIndex v_entrySection ((x1 - x2_16) - (1 : Int32)) r_24 hq_25) cal_X10_indexOf tw_1298 (q0 := 0) rfl rfl [0, 1, 2] [3] 4 [((av 11), .inl (cI, 20, .inl v_entryTrack))] rfl rfl rfl rfl rfl rfl rfl rfl rfl rfl rfl (Nat.le_of_ble_eq_true rfl) hl.1 ⟨Nat.le_of_ble_eq_true rfl, Nat.le_of_ble_eq_true rfl⟩ ⟨Nat.zero_le _, Nat.zero_le _⟩ dX10_timeOf_41 (fun H locs hw => ?_)
            refine lv_if_le (pc := 44) (tgt := 53) hx hb dX10_timeOf_44 (by decide) (fun hc_26 => ?_) (fun hc_26 => ?_)
            · have h := ift hc_26 h
              refine lv_iload_n (pc := 53) hx hb dX10_timeOf_53 rfl (lv_at hl 0 rfl) ?_
              exact x_iret (pc := 54) (v := x2_16) C (Option.some.inj h) rfl hw dX10_timeOf_54
            · have h := iff' hc_26 h
              obtain ⟨x2_27, ex2_27⟩ : ∃ y : Int32, y = x2_16 + 1 := ⟨_, rfl⟩
              have h := nm_at ex2_27 h
              refine lv_iinc (pc := 47) (v := x2_27) (lv' := [(2, .int x2_27), (0, .ref a_this), (1, .int x1)]) hx hb dX10_timeOf_47 hl (k := 0) rfl (by rw [ex2_27]; rfl) (by decide) rfl (fun ls hl => ?_)
              refine lv_goto (pc := 50) (tgt := 10) hx hb dX10_timeOf_50 (by decide) ?_
              exact ih10_17 x2_27 ls _ _ (lv_sub hl [0, 1, 2] rfl) hw h
    exact Lih10_17 FU 0 ls _ _ (lv_sub hl [0, 1, 2] rfl) hw h
def wX10_figures (cB cI cZ : ClassId) (av : Nat → Nat) (a_this : Nat) (v_thrown : Int32) (v_size : Int32) (v_begins : Int32) (v_entries : Int32) (v_length : Int32) (v_pressed : Int32) (v_streamFrames : Int32) (v_zeros : Int32) (v_level : Int32) (v_sum : Int32) (v_tail : Int32) (v_isPlayed : Int32) (v_found : Int32) (v_strange : Int32) (v_innerFails : Int32) (v_outerFails : Int32) (v_mostMarks : Int32) (v_unsure : Int32) (v_may : Int32) (v_mocks : Int32) (v_sumThen : Int32) (v_channel : Nat → Int32) : va_W := [oX10 a_this av v_thrown v_size v_begins v_entries v_length v_pressed v_streamFrames v_zeros v_level v_sum v_tail v_isPlayed v_found v_strange v_innerFails v_outerFails v_mostMarks v_unsure v_may v_mocks v_sumThen, ((av 21), .inl (cI, 96, .inl v_channel))]
def fX10_figures_L2 (x1 : Int32) (x2 : Int32) : Nat → Int32 → (Nat → Int32) → Option (Int32 × (Nat → Int32))
  | 0, _, _ => none
  | F2_3 + 1, x3_1, v_channel_2 => if (8 : Int32) ≤ x3_1 then some ((x1 + (8 : Int32)), v_channel_2) else jk (fun (t_5 : Int32) => og (ixb (x1 + x3_1) 96) (nm (upd v_channel_2 (Int32.toNatClampNeg (x1 + x3_1)) ((t_5 >>> (((3 : Int32) - (x3_1 - x3_1 / (4 : Int32) * (4 : Int32))) &&& 31) : Int32) &&& (1 : Int32))) fun v_channel_8 => nm (x3_1 + 1 : Int32) fun x3_9 => fX10_figures_L2 x1 x2 F2_3 x3_9 v_channel_8)) fun j31_6 => if (4 : Int32) ≤ x3_1 then j31_6 (x2 - x2 / (10 : Int32) * (10 : Int32)) else j31_6 (x2 / (10 : Int32))
def fX10_figures (v_channel : Nat → Int32) (x1 : Int32) (x2 : Int32) : Option (Int32 × (Nat → Int32)) := fX10_figures_L2 x1 x2 FU 0 v_channel
set_option maxHeartbeats 4000000 in
set_option maxRecDepth 100000 in
theorem ct_X10_figures (l : Launch) (D : va_G) (cB cI cZ : ClassId) (tw : Nat) (av : Nat → Nat) (a_this : Nat) (v_thrown : Int32) (v_size : Int32) (v_begins : Int32) (v_entries : Int32) (v_length : Int32) (v_pressed : Int32) (v_streamFrames : Int32) (v_zeros : Int32) (v_level : Int32) (v_sum : Int32) (v_tail : Int32) (v_isPlayed : Int32) (v_found : Int32) (v_strange : Int32) (v_innerFails : Int32) (v_outerFails : Int32) (v_mostMarks : Int32) (v_unsure : Int32) (v_may : Int32) (v_mocks : Int32) (v_sumThen : Int32) (v_channel : Nat → Int32) (x1 : Int32) (x2 : Int32) (res : Int32 × (Nat → Int32)) (h : fX10_figures v_channel x1 x2 = some res) : Ctr l yX10_figures cX10_figures 4 (some .int) (rmK 0 0) D (tyL cB cI cZ) tw [.ref a_this, .int x1, .int x2] (wX10_figures cB cI cZ av a_this v_thrown v_size v_begins v_entries v_length v_pressed v_streamFrames v_zeros v_level v_sum v_tail v_isPlayed v_found v_strange v_innerFails v_outerFails v_mostMarks v_unsure v_may v_mocks v_sumThen v_channel) (fun res : Int32 × (Nat → Int32) => some (.int res.1)) (fun res : Int32 × (Nat → Int32) => (wX10_figures cB cI cZ av a_this v_thrown v_size v_begins v_entries v_length v_pressed v_streamFrames v_zeros v_level v_sum v_tail v_isPlayed v_found v_strange v_innerFails v_outerFails v_mostMarks v_unsure v_may v_mocks v_sumThen (res.2))) res := by
  refine ctr_of RX10 (by decide) rfl (Nat.le_of_ble_eq_true rfl) ?_
  intro p e s m below meth c A C hw ls hl
  have hx := C.1
  have hb := C.2.1
  have hl : lv_has ls 4 [(0, .ref a_this), (1, .int x1), (2, .int x2)] := hl
  unfold fX10_figures at h
  refine lv_iconst (pc := 0) (v := 0) hx hb dX10_figures_0 (by decide) ?_
  refine lv_istore_n (pc := 1) (lv' := [(3, .int 0), (0, .ref a_this), (1, .int x1), (2, .int x2)]) hx hb dX10_figures_1 rfl hl (by decide) rfl (fun ls hl => ?_)
  have Lih2_3 : ∀ (F : Nat) (x3_1 : Int32) (v_channel_2 : Nat → Int32) (ls : Array Slot) (H : Heap) (locs : List Loc), lv_has ls 4 [(3, .int x3_1), (0, .ref a_this), (1, .int x1), (2, .int x2)] → Wd D A s (wX10_figures cB cI cZ av a_this v_thrown v_size v_begins v_entries v_length v_pressed v_streamFrames v_zeros v_level v_sum v_tail v_isPlayed v_found v_strange v_innerFails v_outerFails v_mostMarks v_unsure v_may v_mocks v_sumThen v_channel_2) H locs → fX10_figures_L2 x1 x2 F x3_1 v_channel_2 = some res → W p l e (rmK 0 0) s m ([.ref a_this, .int x1, .int x2] : List Value).toArray below meth c H locs 0 0 (MQ below (QG D (tyL cB cI cZ) A (fun res : Int32 × (Nat → Int32) => some (.int res.1)) (fun res : Int32 × (Nat → Int32) => (wX10_figures cB cI cZ av a_this v_thrown v_size v_begins v_entries v_length v_pressed v_streamFrames v_zeros v_level v_sum v_tail v_isPlayed v_found v_strange v_innerFails v_outerFails v_mostMarks v_unsure v_may v_mocks v_sumThen (res.2))) res) ([.ref a_this, .int x1, .int x2] : List Value).toArray s 0 0 A) (F0 m 2 ls []) := by
    intro F
    induction F with
    | zero => intro x3_1 v_channel_2 ls H locs hl hw h; rw [fX10_figures_L2.eq_1] at h; cases h
    | succ F2_3 ih2_3 =>
      intro x3_1 v_channel_2 ls H locs hl hw h
      rw [fX10_figures_L2.eq_2] at h
      refine lv_iload_n (pc := 2) hx hb dX10_figures_2 rfl (lv_at hl 0 rfl) ?_
      refine lv_bipush (pc := 3) (v := 8) hx hb dX10_figures_3 (by decide) ?_
      refine lv_icmp_ge (pc := 5) (tgt := 46) hx hb dX10_figures_5 (by decide) (fun hc_4 => ?_) (fun hc_4 => ?_)
      · have h := ift hc_4 h
        refine lv_iload_n (pc := 46) hx hb dX10_figures_46 rfl (lv_at hl 2 rfl) ?_
        refine lv_bipush (pc := 47) (v := 8) hx hb dX10_figures_47 (by decide) ?_
        refine lv_iadd (pc := 49) hx hb dX10_figures_49 ?_
        exact x_iret (pc := 50) (v := ((x1 + (8 : Int32)), v_channel_2)) C (Option.some.inj h) rfl hw dX10_figures_50
      · have h := iff' hc_4 h
        refine lv_aload_n (pc := 8) hx hb dX10_figures_8 rfl (lv_at hl 1 rfl) ?_
        refine gf_X10_42 (pc := 9) C hw 0 rfl rfl dX10_figures_9 ?_
        refine lv_iload_n (pc := 12) hx hb dX10_figures_12 rfl (lv_at hl 2 rfl) ?_
        refine lv_iload_n (pc := 13) hx hb dX10_figures_13 rfl (lv_at hl 0 rfl) ?_
        refine lv_iadd (pc := 14) hx hb dX10_figures_14 ?_
        refine lv_iload_n (pc := 15) hx hb dX10_figures_15 rfl (lv_at hl 0 rfl) ?_
        refine lv_iconst (pc := 16) (v := 4) hx hb dX10_figures_16 (by decide) ?_
        obtain ⟨j31_6, ej31_6, h⟩ := jk_at h
        have J31_6 : ∀ (t_5 : Int32) (ls : Array Slot) (H : Heap) (locs : List Loc), lv_has ls 4 [(3, .int x3_1), (0, .ref a_this), (1, .int x1), (2, .int x2)] → Wd D A s (wX10_figures cB cI cZ av a_this v_thrown v_size v_begins v_entries v_length v_pressed v_streamFrames v_zeros v_level v_sum v_tail v_isPlayed v_found v_strange v_innerFails v_outerFails v_mostMarks v_unsure v_may v_mocks v_sumThen v_channel_2) H locs → j31_6 t_5 = some res → W p l e (rmK 0 0) s m ([.ref a_this, .int x1, .int x2] : List Value).toArray below meth c H locs 0 0 (MQ below (QG D (tyL cB cI cZ) A (fun res : Int32 × (Nat → Int32) => some (.int res.1)) (fun res : Int32 × (Nat → Int32) => (wX10_figures cB cI cZ av a_this v_thrown v_size v_begins v_entries v_length v_pressed v_streamFrames v_zeros v_level v_sum v_tail v_isPlayed v_found v_strange v_innerFails v_outerFails v_mostMarks v_unsure v_may v_mocks v_sumThen (res.2))) res) ([.ref a_this, .int x1, .int x2] : List Value).toArray s 0 0 A) (F0 m 31 ls [.int t_5, .int (x1 + x3_1), .ref (av 21)]) := by
          intro t_5 ls H locs hl hw h
          have h := k1_at ej31_6 h
          refine lv_iconst (pc := 31) (v := 3) hx hb dX10_figures_31 (by decide) ?_
          refine lv_iload_n (pc := 32) hx hb dX10_figures_32 rfl (lv_at hl 0 rfl) ?_
          refine lv_iconst (pc := 33) (v := 4) hx hb dX10_figures_33 (by decide) ?_
          refine lv_irem (pc := 34) hx hb dX10_figures_34 (by decide) ?_
          refine lv_isub (pc := 35) hx hb dX10_figures_35 ?_
          refine lv_ishr (pc := 36) hx hb dX10_figures_36 ?_
          refine lv_iconst (pc := 37) (v := 1) hx hb dX10_figures_37 (by decide) ?_
          refine lv_iand (pc := 38) hx hb dX10_figures_38 ?_
          obtain ⟨hi_7, h⟩ := og_at h
          obtain ⟨v_channel_8, ev_channel_8⟩ : ∃ y : Nat → Int32, y = upd v_channel_2 (Int32.toNatClampNeg (x1 + x3_1)) ((t_5 >>> (((3 : Int32) - (x3_1 - x3_1 / (4 : Int32) * (4 : Int32))) &&& 31) : Int32) &&& (1 : Int32)) := ⟨_, rfl⟩
          have h := nm_at ev_channel_8 h
          refine x_iast (pc := 39) (wX10_figures cB cI cZ av a_this v_thrown v_size v_begins v_entries v_length v_pressed v_streamFrames v_zeros v_level v_sum v_tail v_isPlayed v_found v_strange v_innerFails v_outerFails v_mostMarks v_unsure v_may v_mocks v_sumThen v_channel_8) C hw 1 rfl hi_7 (by rw [ev_channel_8]; rfl) dX10_figures_39 (fun H locs hw => ?_)
          obtain ⟨x3_9, ex3_9⟩ : ∃ y : Int32, y = x3_1 + 1 := ⟨_, rfl⟩
          have h := nm_at ex3_9 h
          refine lv_iinc (pc := 40) (v := x3_9) (lv' := [(3, .int x3_9), (0, .ref a_this), (1, .int x1), (2, .int x2)]) hx hb dX10_figures_40 hl (k := 0) rfl (by rw [ex3_9]; rfl) (by decide) rfl (fun ls hl => ?_)
          refine lv_goto (pc := 43) (tgt := 2) hx hb dX10_figures_43 (by decide) ?_
          exact ih2_3 x3_9 v_channel_8 ls _ _ (lv_sub hl [0, 1, 2, 3] rfl) hw h
        refine lv_icmp_ge (pc := 17) (tgt := 27) hx hb dX10_figures_17 (by decide) (fun hc_10 => ?_) (fun hc_10 => ?_)
        · have h := ift hc_10 h
          refine lv_iload_n (pc := 27) hx hb dX10_figures_27 rfl (lv_at hl 3 rfl) ?_
          refine lv_bipush (pc := 28) (v := 10) hx hb dX10_figures_28 (by decide) ?_
          refine lv_irem (pc := 30) hx hb dX10_figures_30 (by decide) ?_
          exact J31_6 (x2 - x2 / (10 : Int32) * (10 : Int32)) ls _ _ (lv_sub hl [0, 1, 2, 3] rfl) hw h
        · have h := iff' hc_10 h
          refine lv_iload_n (pc := 20) hx hb dX10_figures_20 rfl (lv_at hl 3 rfl) ?_
          refine lv_bipush (pc := 21) (v := 10) hx hb dX10_figures_21 (by decide) ?_
          refine lv_idiv (pc := 23) hx hb dX10_figures_23 (by decide) ?_
          refine lv_goto (pc := 24) (tgt := 31) hx hb dX10_figures_24 (by decide) ?_
          exact J31_6 (x2 / (10 : Int32)) ls _ _ (lv_sub hl [0, 1, 2, 3] rfl) hw h
  exact Lih2_3 FU 0 v_channel ls _ _ (lv_sub hl [0, 1, 2, 3] rfl) hw h
def wX10_clock (cB cI cZ : ClassId) (av : Nat → Nat) (a_this : Nat) (v_thrown : Int32) (v_size : Int32) (v_begins : Int32) (v_entries : Int32) (v_length : Int32) (v_pressed : Int32) (v_streamFrames : Int32) (v_zeros : Int32) (v_level : Int32) (v_sum : Int32) (v_tail : Int32) (v_isPlayed : Int32) (v_found : Int32) (v_strange : Int32) (v_innerFails : Int32) (v_outerFails : Int32) (v_mostMarks : Int32) (v_unsure : Int32) (v_may : Int32) (v_mocks : Int32) (v_sumThen : Int32) (v_channel : Nat → Int32) : va_W := [oX10 a_this av v_thrown v_size v_begins v_entries v_length v_pressed v_streamFrames v_zeros v_level v_sum v_tail v_isPlayed v_found v_strange v_innerFails v_outerFails v_mostMarks v_unsure v_may v_mocks v_sumThen, ((av 21), .inl (cI, 96, .inl v_channel))]
def fX10_clock (v_channel : Nat → Int32) (x1 : Int32) (x2 : Int32) : Option (Int32 × (Nat → Int32)) := ob2 (fX10_figures v_channel x1 (x2 / (4500 : Int32))) fun r_1 v_channel_2 => ob2 (fX10_figures v_channel_2 r_1 ((x2 / (75 : Int32)) - (x2 / (75 : Int32)) / (60 : Int32) * (60 : Int32))) fun r_4 v_channel_5 => ob2 (fX10_figures v_channel_5 r_4 (x2 - x2 / (75 : Int32) * (75 : Int32))) fun r_7 v_channel_8 => some (r_7, v_channel_8)
set_option maxHeartbeats 4000000 in
set_option maxRecDepth 100000 in
theorem ct_X10_clock (l : Launch) (D : va_G) (cB cI cZ : ClassId) (tw : Nat) (av : Nat → Nat) (a_this : Nat) (v_thrown : Int32) (v_size : Int32) (v_begins : Int32) (v_entries : Int32) (v_length : Int32) (v_pressed : Int32) (v_streamFrames : Int32) (v_zeros : Int32) (v_level : Int32) (v_sum : Int32) (v_tail : Int32) (v_isPlayed : Int32) (v_found : Int32) (v_strange : Int32) (v_innerFails : Int32) (v_outerFails : Int32) (v_mostMarks : Int32) (v_unsure : Int32) (v_may : Int32) (v_mocks : Int32) (v_sumThen : Int32) (v_channel : Nat → Int32) (x1 : Int32) (x2 : Int32) (res : Int32 × (Nat → Int32)) (h : fX10_clock v_channel x1 x2 = some res) : Ctr l yX10_clock cX10_clock 4 (some .int) (rmK 1 23) D (tyL cB cI cZ) tw [.ref a_this, .int x1, .int x2] (wX10_clock cB cI cZ av a_this v_thrown v_size v_begins v_entries v_length v_pressed v_streamFrames v_zeros v_level v_sum v_tail v_isPlayed v_found v_strange v_innerFails v_outerFails v_mostMarks v_unsure v_may v_mocks v_sumThen v_channel) (fun res : Int32 × (Nat → Int32) => some (.int res.1)) (fun res : Int32 × (Nat → Int32) => (wX10_clock cB cI cZ av a_this v_thrown v_size v_begins v_entries v_length v_pressed v_streamFrames v_zeros v_level v_sum v_tail v_isPlayed v_found v_strange v_innerFails v_outerFails v_mostMarks v_unsure v_may v_mocks v_sumThen (res.2))) res := by
  refine ctr_of RX10 (by decide) rfl (Nat.le_of_ble_eq_true rfl) ?_
  intro p e s m below meth c A C hw ls hl
  have hx := C.1
  have hb := C.2.1
  have hl : lv_has ls 4 [(0, .ref a_this), (1, .int x1), (2, .int x2)] := hl
  unfold fX10_clock at h
  refine lv_aload_n (pc := 0) hx hb dX10_clock_0 rfl (lv_at hl 0 rfl) ?_
  refine lv_iload_n (pc := 1) hx hb dX10_clock_1 rfl (lv_at hl 1 rfl) ?_
  refine lv_iload_n (pc := 2) hx hb dX10_clock_2 rfl (lv_at hl 2 rfl) ?_
  refine lv_sipush (pc := 3) (v := 4500) hx hb dX10_clock_3 (by decide) ?_
  refine lv_idiv (pc := 6) hx hb dX10_clock_6 (by decide) ?_
  obtain ⟨r_1, v_channel_2, hq_3, h⟩ := ob2_at h
  refine x_callV (pc := 7) (rest := []) (stk := [.int r_1]) (wX10_clock cB cI cZ av a_this v_thrown v_size v_begins v_entries v_length v_pressed v_streamFrames v_zeros v_level v_sum v_tail v_isPlayed v_found v_strange v_innerFails v_outerFails v_mostMarks v_unsure v_may v_mocks v_sumThen v_channel_2) C hw (ct_X10_figures l D cB cI cZ tw av a_this v_thrown v_size v_begins v_entries v_length v_pressed v_streamFrames v_zeros v_level v_sum v_tail v_isPlayed v_found v_strange v_innerFails v_outerFails v_mostMarks v_unsure v_may v_mocks v_sumThen v_channel x1 (x2 / (4500 : Int32)) (r_1, v_channel_2) hq_3) cal_X10_figures tw_1294 (q0 := 0) rfl rfl [0, 1] [] 2 [] rfl rfl rfl rfl rfl rfl rfl rfl rfl rfl rfl (Nat.le_of_ble_eq_true rfl) hl.1 ⟨Nat.le_of_ble_eq_true rfl, Nat.le_of_ble_eq_true rfl⟩ ⟨Nat.zero_le _, Nat.zero_le _⟩ dX10_clock_7 (fun H locs hw => ?_)
  refine lv_istore_n (pc := 10) (lv' := [(3, .int r_1), (0, .ref a_this), (1, .int x1), (2, .int x2)]) hx hb dX10_clock_10 rfl hl (by decide) rfl (fun ls hl => ?_)
  refine lv_aload_n (pc := 11) hx hb dX10_clock_11 rfl (lv_at hl 1 rfl) ?_
  refine lv_iload_n (pc := 12) hx hb dX10_clock_12 rfl (lv_at hl 0 rfl) ?_
  refine lv_iload_n (pc := 13) hx hb dX10_clock_13 rfl (lv_at hl 3 rfl) ?_
  refine lv_bipush (pc := 14) (v := 75) hx hb dX10_clock_14 (by decide) ?_
  refine lv_idiv (pc := 16) hx hb dX10_clock_16 (by decide) ?_
  refine lv_bipush (pc := 17) (v := 60) hx hb dX10_clock_17 (by decide) ?_
  refine lv_irem (pc := 19) hx hb dX10_clock_19 (by decide) ?_
  obtain ⟨r_4, v_channel_5, hq_6, h⟩ := ob2_at h
  refine x_callV (pc := 20) (rest := []) (stk := [.int r_4]) (wX10_clock cB cI cZ av a_this v_thrown v_size v_begins v_entries v_length v_pressed v_streamFrames v_zeros v_level v_sum v_tail v_isPlayed v_found v_strange v_innerFails v_outerFails v_mostMarks v_unsure v_may v_mocks v_sumThen v_channel_5) C hw (ct_X10_figures l D cB cI cZ tw av a_this v_thrown v_size v_begins v_entries v_length v_pressed v_streamFrames v_zeros v_level v_sum v_tail v_isPlayed v_found v_strange v_innerFails v_outerFails v_mostMarks v_unsure v_may v_mocks v_sumThen v_channel_2 r_1 ((x2 / (75 : Int32)) - (x2 / (75 : Int32)) / (60 : Int32) * (60 : Int32)) (r_4, v_channel_5) hq_6) cal_X10_figures tw_1294 (q0 := 0) rfl rfl [0, 1] [] 2 [] rfl rfl rfl rfl rfl rfl rfl rfl rfl rfl rfl (Nat.le_of_ble_eq_true rfl) hl.1 ⟨Nat.le_of_ble_eq_true rfl, Nat.le_of_ble_eq_true rfl⟩ ⟨Nat.zero_le _, Nat.zero_le _⟩ dX10_clock_20 (fun H locs hw => ?_)
  refine lv_istore_n (pc := 23) (lv' := [(3, .int r_4), (0, .ref a_this), (1, .int x1), (2, .int x2)]) hx hb dX10_clock_23 rfl hl (by decide) rfl (fun ls hl => ?_)
  refine lv_aload_n (pc := 24) hx hb dX10_clock_24 rfl (lv_at hl 1 rfl) ?_
  refine lv_iload_n (pc := 25) hx hb dX10_clock_25 rfl (lv_at hl 0 rfl) ?_
  refine lv_iload_n (pc := 26) hx hb dX10_clock_26 rfl (lv_at hl 3 rfl) ?_
  refine lv_bipush (pc := 27) (v := 75) hx hb dX10_clock_27 (by decide) ?_
  refine lv_irem (pc := 29) hx hb dX10_clock_29 (by decide) ?_
  obtain ⟨r_7, v_channel_8, hq_9, h⟩ := ob2_at h
  refine x_callV (pc := 30) (rest := []) (stk := [.int r_7]) (wX10_clock cB cI cZ av a_this v_thrown v_size v_begins v_entries v_length v_pressed v_streamFrames v_zeros v_level v_sum v_tail v_isPlayed v_found v_strange v_innerFails v_outerFails v_mostMarks v_unsure v_may v_mocks v_sumThen v_channel_8) C hw (ct_X10_figures l D cB cI cZ tw av a_this v_thrown v_size v_begins v_entries v_length v_pressed v_streamFrames v_zeros v_level v_sum v_tail v_isPlayed v_found v_strange v_innerFails v_outerFails v_mostMarks v_unsure v_may v_mocks v_sumThen v_channel_5 r_4 (x2 - x2 / (75 : Int32) * (75 : Int32)) (r_7, v_channel_8) hq_9) cal_X10_figures tw_1294 (q0 := 0) rfl rfl [0, 1] [] 2 [] rfl rfl rfl rfl rfl rfl rfl rfl rfl rfl rfl (Nat.le_of_ble_eq_true rfl) hl.1 ⟨Nat.le_of_ble_eq_true rfl, Nat.le_of_ble_eq_true rfl⟩ ⟨Nat.zero_le _, Nat.zero_le _⟩ dX10_clock_30 (fun H locs hw => ?_)
  exact x_iret (pc := 33) (v := (r_7, v_channel_8)) C (Option.some.inj h) rfl hw dX10_clock_33
def wX10_checkStep (cB cI cZ : ClassId) (av : Nat → Nat) : va_W := []
def fX10_checkStep (x0 : Int32) (x1 : Int32) : Int32 := if ((x0 >>> ((15 : Int32) &&& 31) : Int32) &&& (1 : Int32)) = x1 then (((x0 <<< ((1 : Int32) &&& 31) : Int32) &&& (65535 : Int32)) ^^^ (0 : Int32)) else (((x0 <<< ((1 : Int32) &&& 31) : Int32) &&& (65535 : Int32)) ^^^ (4129 : Int32))
set_option maxHeartbeats 4000000 in
set_option maxRecDepth 100000 in
theorem ct_X10_checkStep (l : Launch) (D : va_G) (cB cI cZ : ClassId) (tw : Nat) (av : Nat → Nat) (x0 : Int32) (x1 : Int32) (res : Int32) (h : fX10_checkStep x0 x1 = res) : Ctr l yX10_checkStep cX10_checkStep 2 (some .int) (rmK 0 0) D (tyL cB cI cZ) tw [.int x0, .int x1] (wX10_checkStep cB cI cZ av) (fun res : Int32 => some (.int res)) (fun res : Int32 => (wX10_checkStep cB cI cZ av)) res := by
  refine ctr_of RX10 (by decide) rfl (Nat.le_of_ble_eq_true rfl) ?_
  intro p e s m below meth c A C hw ls hl
  have hx := C.1
  have hb := C.2.1
  have hl : lv_has ls 2 [(0, .int x0), (1, .int x1)] := hl
  unfold fX10_checkStep at h
  refine lv_iload_n (pc := 0) hx hb dX10_checkStep_0 rfl (lv_at hl 0 rfl) ?_
  refine lv_iconst (pc := 1) (v := 1) hx hb dX10_checkStep_1 (by decide) ?_
  refine lv_ishl (pc := 2) hx hb dX10_checkStep_2 ?_
  refine lv_ldc (pc := 3) (own := RX10) (v := 65535) hx hb C.2.2.2.1 (C.2.2.2.2.1 _ tw_1313) dX10_checkStep_3 ?_
  refine lv_iand (pc := 5) hx hb dX10_checkStep_5 ?_
  refine lv_iload_n (pc := 6) hx hb dX10_checkStep_6 rfl (lv_at hl 0 rfl) ?_
  refine lv_bipush (pc := 7) (v := 15) hx hb dX10_checkStep_7 (by decide) ?_
  refine lv_ishr (pc := 9) hx hb dX10_checkStep_9 ?_
  refine lv_iconst (pc := 10) (v := 1) hx hb dX10_checkStep_10 (by decide) ?_
  refine lv_iand (pc := 11) hx hb dX10_checkStep_11 ?_
  refine lv_iload_n (pc := 12) hx hb dX10_checkStep_12 rfl (lv_at hl 1 rfl) ?_
  refine lv_icmp_eq (pc := 13) (tgt := 22) hx hb dX10_checkStep_13 (by decide) (fun hc_1 => ?_) (fun hc_1 => ?_)
  · have h := ift hc_1 h
    refine lv_iconst (pc := 22) (v := 0) hx hb dX10_checkStep_22 (by decide) ?_
    refine lv_ixor (pc := 23) hx hb dX10_checkStep_23 ?_
    exact x_iret (pc := 24) (v := (((x0 <<< ((1 : Int32) &&& 31) : Int32) &&& (65535 : Int32)) ^^^ (0 : Int32))) C h rfl hw dX10_checkStep_24
  · have h := iff' hc_1 h
    refine lv_sipush (pc := 16) (v := 4129) hx hb dX10_checkStep_16 (by decide) ?_
    refine lv_goto (pc := 19) (tgt := 23) hx hb dX10_checkStep_19 (by decide) ?_
    refine lv_ixor (pc := 23) hx hb dX10_checkStep_23 ?_
    exact x_iret (pc := 24) (v := (((x0 <<< ((1 : Int32) &&& 31) : Int32) &&& (65535 : Int32)) ^^^ (4129 : Int32))) C h rfl hw dX10_checkStep_24
def wX10_makeChannel (cB cI cZ : ClassId) (av : Nat → Nat) (a_this : Nat) (v_thrown : Int32) (v_size : Int32) (v_begins : Int32) (v_entries : Int32) (v_length : Int32) (v_pressed : Int32) (v_streamFrames : Int32) (v_zeros : Int32) (v_level : Int32) (v_sum : Int32) (v_tail : Int32) (v_isPlayed : Int32) (v_found : Int32) (v_strange : Int32) (v_innerFails : Int32) (v_outerFails : Int32) (v_mostMarks : Int32) (v_unsure : Int32) (v_may : Int32) (v_mocks : Int32) (v_sumThen : Int32) (v_channel : Nat → Int32) (v_entryControl : Nat → Int32) (v_entryIndex : Nat → Int32) (v_entrySection : Nat → Int32) (v_entryTrack : Nat → Int32) : va_W := [oX10 a_this av v_thrown v_size v_begins v_entries v_length v_pressed v_streamFrames v_zeros v_level v_sum v_tail v_isPlayed v_found v_strange v_innerFails v_outerFails v_mostMarks v_unsure v_may v_mocks v_sumThen, ((av 21), .inl (cI, 96, .inl v_channel)), ((av 10), .inl (cI, 20, .inl v_entryControl)), ((av 12), .inl (cI, 20, .inl v_entryIndex)), ((av 9), .inl (cI, 20, .inl v_entrySection)), ((av 11), .inl (cI, 20, .inl v_entryTrack))]
def fX10_makeChannel_L158 (x4_28 : Int32) : Nat → Int32 → (Nat → Int32) → Option ((Nat → Int32))
  | 0, _, _ => none
  | F158_32 + 1, x5_30, v_channel_31 => if (16 : Int32) ≤ x5_30 then some v_channel_31 else og (ixb ((80 : Int32) + x5_30) 96) (nm (upd v_channel_31 (Int32.toNatClampNeg ((80 : Int32) + x5_30)) (((x4_28 >>> (((15 : Int32) - x5_30) &&& 31) : Int32) &&& (1 : Int32)) ^^^ (1 : Int32))) fun v_channel_35 => nm (x5_30 + 1 : Int32) fun x5_36 => fX10_makeChannel_L158 x4_28 F158_32 x5_36 v_channel_35)
def fX10_makeChannel_L128 (j155_29 : Int32 → Option ((Nat → Int32))) (v_channel_26 : Nat → Int32) : Nat → Int32 → Int32 → Option ((Nat → Int32))
  | 0, _, _ => none
  | F128_39 + 1, x5_37, x4_38 => if (80 : Int32) ≤ x5_37 then j155_29 x4_38 else og (ixb x5_37 96) (nt1 (fX10_checkStep x4_38 (v_channel_26 (Int32.toNatClampNeg x5_37))) fun r_42 => nm (x5_37 + 1 : Int32) fun x5_44 => fX10_makeChannel_L128 j155_29 v_channel_26 F128_39 x5_44 r_42)
def fX10_makeChannel_L25 (j69_6 : (Nat → Int32) → Option ((Nat → Int32))) (t_3 : Int32) : Nat → Int32 → (Nat → Int32) → Option ((Nat → Int32))
  | 0, _, _ => none
  | F25_47 + 1, x3_45, v_channel_46 => if (8 : Int32) ≤ x3_45 then j69_6 v_channel_46 else jk (fun (t_49 : Int32) => og (ixb x3_45 96) (nm (upd v_channel_46 (Int32.toNatClampNeg x3_45) t_49) fun v_channel_52 => nm (x3_45 + 1 : Int32) fun x3_53 => fX10_makeChannel_L25 j69_6 t_3 F25_47 x3_53 v_channel_52)) fun j62_50 => if (4 : Int32) ≤ x3_45 then if x3_45 = (7 : Int32) then j62_50 1 else j62_50 0 else j62_50 ((t_3 >>> (((3 : Int32) - x3_45) &&& 31) : Int32) &&& (1 : Int32))
def fX10_makeChannel (v_begins : Int32) (v_entries : Int32) (v_pressed : Int32) (v_channel : Nat → Int32) (v_entryControl : Nat → Int32) (v_entryIndex : Nat → Int32) (v_entrySection : Nat → Int32) (v_entryTrack : Nat → Int32) (x1 : Int32) : Option ((Nat → Int32)) := ob1 (fX10_entryFor v_entries v_entrySection x1) fun r_1 => jk (fun (t_3 : Int32) => jk (fun (v_channel_5 : Nat → Int32) => ob1 (fX10_trackOf v_entries v_entrySection v_entryTrack x1) fun r_7 => ob2 (fX10_figures v_channel_5 8 r_7) fun r_9 v_channel_10 => ob1 (fX10_indexOf v_entries v_entryIndex v_entrySection x1) fun r_12 => ob2 (fX10_figures v_channel_10 r_9 r_12) fun r_14 v_channel_15 => ob1 (fX10_timeOf v_entries v_pressed v_entryIndex v_entrySection v_entryTrack x1) fun r_17 => ob2 (fX10_clock v_channel_15 r_14 r_17) fun r_19 v_channel_20 => ob2 (fX10_figures v_channel_20 r_19 0) fun r_22 v_channel_23 => ob2 (fX10_clock v_channel_23 r_22 (x1 + v_begins)) fun r_25 v_channel_26 => jk (fun (x4_28 : Int32) => fX10_makeChannel_L158 x4_28 FU 0 v_channel_26) fun j155_29 => fX10_makeChannel_L128 j155_29 v_channel_26 FU 0 0) fun j69_6 => fX10_makeChannel_L25 j69_6 t_3 FU 0 v_channel) fun j22_4 => if 0 ≤ r_1 then ob1 (fX10_entryFor v_entries v_entrySection x1) fun r_57 => og (ixb r_57 20) (j22_4 (v_entryControl (Int32.toNatClampNeg r_57))) else j22_4 0
set_option maxHeartbeats 4000000 in
set_option maxRecDepth 100000 in
theorem ct_X10_makeChannel (l : Launch) (D : va_G) (cB cI cZ : ClassId) (tw : Nat) (av : Nat → Nat) (a_this : Nat) (v_thrown : Int32) (v_size : Int32) (v_begins : Int32) (v_entries : Int32) (v_length : Int32) (v_pressed : Int32) (v_streamFrames : Int32) (v_zeros : Int32) (v_level : Int32) (v_sum : Int32) (v_tail : Int32) (v_isPlayed : Int32) (v_found : Int32) (v_strange : Int32) (v_innerFails : Int32) (v_outerFails : Int32) (v_mostMarks : Int32) (v_unsure : Int32) (v_may : Int32) (v_mocks : Int32) (v_sumThen : Int32) (v_channel : Nat → Int32) (v_entryControl : Nat → Int32) (v_entryIndex : Nat → Int32) (v_entrySection : Nat → Int32) (v_entryTrack : Nat → Int32) (x1 : Int32) (res : (Nat → Int32)) (h : fX10_makeChannel v_begins v_entries v_pressed v_channel v_entryControl v_entryIndex v_entrySection v_entryTrack x1 = some res) : Ctr l yX10_makeChannel cX10_makeChannel 6 none (rmK 3 66) D (tyL cB cI cZ) tw [.ref a_this, .int x1] (wX10_makeChannel cB cI cZ av a_this v_thrown v_size v_begins v_entries v_length v_pressed v_streamFrames v_zeros v_level v_sum v_tail v_isPlayed v_found v_strange v_innerFails v_outerFails v_mostMarks v_unsure v_may v_mocks v_sumThen v_channel v_entryControl v_entryIndex v_entrySection v_entryTrack) (fun _ : (Nat → Int32) => none) (fun res : (Nat → Int32) => (wX10_makeChannel cB cI cZ av a_this v_thrown v_size v_begins v_entries v_length v_pressed v_streamFrames v_zeros v_level v_sum v_tail v_isPlayed v_found v_strange v_innerFails v_outerFails v_mostMarks v_unsure v_may v_mocks v_sumThen res v_entryControl v_entryIndex v_entrySection v_entryTrack)) res := by
  refine ctr_of RX10 (by decide) rfl (Nat.le_of_ble_eq_true rfl) ?_
  intro p e s m below meth c A C hw ls hl
  have hx := C.1
  have hb := C.2.1
  have hl : lv_has ls 6 [(0, .ref a_this), (1, .int x1)] := hl
  unfold fX10_makeChannel at h
  refine lv_aload_n (pc := 0) hx hb dX10_makeChannel_0 rfl (lv_at hl 0 rfl) ?_
  refine lv_iload_n (pc := 1) hx hb dX10_makeChannel_1 rfl (lv_at hl 1 rfl) ?_
  obtain ⟨r_1, hq_2, h⟩ := ob1_at h
  refine x_callV (pc := 2) (rest := []) (stk := [.int r_1]) (wX10_makeChannel cB cI cZ av a_this v_thrown v_size v_begins v_entries v_length v_pressed v_streamFrames v_zeros v_level v_sum v_tail v_isPlayed v_found v_strange v_innerFails v_outerFails v_mostMarks v_unsure v_may v_mocks v_sumThen v_channel v_entryControl v_entryIndex v_entrySection v_entryTrack) C hw (ct_X10_entryFor l D cB cI cZ tw av a_this v_thrown v_size v_begins v_entries v_length v_pressed v_streamFrames v_zeros v_level v_sum v_tail v_isPlayed v_found v_strange v_innerFails v_outerFails v_mostMarks v_unsure v_may v_mocks v_sumThen v_entrySection x1 r_1 hq_2) cal_X10_entryFor tw_1286 (q0 := 0) rfl rfl [0, 4] [1, 2, 3, 5] 6 [((av 21), .inl (cI, 96, .inl v_channel)), ((av 10), .inl (cI, 20, .inl v_entryControl)), ((av 12), .inl (cI, 20, .inl v_entryIndex)), ((av 11), .inl (cI, 20, .inl v_entryTrack))] rfl rfl rfl rfl rfl rfl rfl rfl rfl rfl rfl (Nat.le_of_ble_eq_true rfl) hl.1 ⟨Nat.le_of_ble_eq_true rfl, Nat.le_of_ble_eq_true rfl⟩ ⟨Nat.zero_le _, Nat.zero_le _⟩ dX10_makeChannel_2 (fun H locs hw => ?_)
  obtain ⟨j22_4, ej22_4, h⟩ := jk_at h
  have J22_4 : ∀ (t_3 : Int32) (ls : Array Slot) (H : Heap) (locs : List Loc), lv_has ls 6 [(0, .ref a_this), (1, .int x1)] → Wd D A s (wX10_makeChannel cB cI cZ av a_this v_thrown v_size v_begins v_entries v_length v_pressed v_streamFrames v_zeros v_level v_sum v_tail v_isPlayed v_found v_strange v_innerFails v_outerFails v_mostMarks v_unsure v_may v_mocks v_sumThen v_channel v_entryControl v_entryIndex v_entrySection v_entryTrack) H locs → j22_4 t_3 = some res → W p l e (rmK 3 66) s m ([.ref a_this, .int x1] : List Value).toArray below meth c H locs 0 0 (MQ below (QG D (tyL cB cI cZ) A (fun _ : (Nat → Int32) => none) (fun res : (Nat → Int32) => (wX10_makeChannel cB cI cZ av a_this v_thrown v_size v_begins v_entries v_length v_pressed v_streamFrames v_zeros v_level v_sum v_tail v_isPlayed v_found v_strange v_innerFails v_outerFails v_mostMarks v_unsure v_may v_mocks v_sumThen res v_entryControl v_entryIndex v_entrySection v_entryTrack)) res) ([.ref a_this, .int x1] : List Value).toArray s 0 0 A) (F0 m 22 ls [.int t_3]) := by
    intro t_3 ls H locs hl hw h
    have h := k1_at ej22_4 h
    refine lv_istore_n (pc := 22) (lv' := [(2, .int t_3), (0, .ref a_this), (1, .int x1)]) hx hb dX10_makeChannel_22 rfl hl (by decide) rfl (fun ls hl => ?_)
    refine lv_iconst (pc := 23) (v := 0) hx hb dX10_makeChannel_23 (by decide) ?_
    refine lv_istore_n (pc := 24) (lv' := [(3, .int 0), (2, .int t_3), (0, .ref a_this), (1, .int x1)]) hx hb dX10_makeChannel_24 rfl hl (by decide) rfl (fun ls hl => ?_)
    obtain ⟨j69_6, ej69_6, h⟩ := jk_at h
    have J69_6 : ∀ (v_channel_5 : Nat → Int32) (ls : Array Slot) (H : Heap) (locs : List Loc), lv_has ls 6 [(0, .ref a_this), (1, .int x1)] → Wd D A s (wX10_makeChannel cB cI cZ av a_this v_thrown v_size v_begins v_entries v_length v_pressed v_streamFrames v_zeros v_level v_sum v_tail v_isPlayed v_found v_strange v_innerFails v_outerFails v_mostMarks v_unsure v_may v_mocks v_sumThen v_channel_5 v_entryControl v_entryIndex v_entrySection v_entryTrack) H locs → j69_6 v_channel_5 = some res → W p l e (rmK 3 66) s m ([.ref a_this, .int x1] : List Value).toArray below meth c H locs 0 0 (MQ below (QG D (tyL cB cI cZ) A (fun _ : (Nat → Int32) => none) (fun res : (Nat → Int32) => (wX10_makeChannel cB cI cZ av a_this v_thrown v_size v_begins v_entries v_length v_pressed v_streamFrames v_zeros v_level v_sum v_tail v_isPlayed v_found v_strange v_innerFails v_outerFails v_mostMarks v_unsure v_may v_mocks v_sumThen res v_entryControl v_entryIndex v_entrySection v_entryTrack)) res) ([.ref a_this, .int x1] : List Value).toArray s 0 0 A) (F0 m 69 ls []) := by
      intro v_channel_5 ls H locs hl hw h
      have h := k1_at ej69_6 h
      refine lv_aload_n (pc := 69) hx hb dX10_makeChannel_69 rfl (lv_at hl 0 rfl) ?_
      refine lv_bipush (pc := 70) (v := 8) hx hb dX10_makeChannel_70 (by decide) ?_
      refine lv_aload_n (pc := 72) hx hb dX10_makeChannel_72 rfl (lv_at hl 0 rfl) ?_
      refine lv_iload_n (pc := 73) hx hb dX10_makeChannel_73 rfl (lv_at hl 1 rfl) ?_
      obtain ⟨r_7, hq_8, h⟩ := ob1_at h
      refine x_callV (pc := 74) (rest := [.int 8, .ref a_this]) (stk := [.int r_7, .int 8, .ref a_this]) (wX10_makeChannel cB cI cZ av a_this v_thrown v_size v_begins v_entries v_length v_pressed v_streamFrames v_zeros v_level v_sum v_tail v_isPlayed v_found v_strange v_innerFails v_outerFails v_mostMarks v_unsure v_may v_mocks v_sumThen v_channel_5 v_entryControl v_entryIndex v_entrySection v_entryTrack) C hw (ct_X10_trackOf l D cB cI cZ tw av a_this v_thrown v_size v_begins v_entries v_length v_pressed v_streamFrames v_zeros v_level v_sum v_tail v_isPlayed v_found v_strange v_innerFails v_outerFails v_mostMarks v_unsure v_may v_mocks v_sumThen v_entrySection v_entryTrack x1 r_7 hq_8) cal_X10_trackOf tw_1290 (q0 := 0) rfl rfl [0, 4, 5] [1, 2, 3] 6 [((av 21), .inl (cI, 96, .inl v_channel_5)), ((av 10), .inl (cI, 20, .inl v_entryControl)), ((av 12), .inl (cI, 20, .inl v_entryIndex))] rfl rfl rfl rfl rfl rfl rfl rfl rfl rfl rfl (Nat.le_of_ble_eq_true rfl) hl.1 ⟨Nat.le_of_ble_eq_true rfl, Nat.le_of_ble_eq_true rfl⟩ ⟨Nat.zero_le _, Nat.zero_le _⟩ dX10_makeChannel_74 (fun H locs hw => ?_)
      obtain ⟨r_9, v_channel_10, hq_11, h⟩ := ob2_at h
      refine x_callV (pc := 77) (rest := []) (stk := [.int r_9]) (wX10_makeChannel cB cI cZ av a_this v_thrown v_size v_begins v_entries v_length v_pressed v_streamFrames v_zeros v_level v_sum v_tail v_isPlayed v_found v_strange v_innerFails v_outerFails v_mostMarks v_unsure v_may v_mocks v_sumThen v_channel_10 v_entryControl v_entryIndex v_entrySection v_entryTrack) C hw (ct_X10_figures l D cB cI cZ tw av a_this v_thrown v_size v_begins v_entries v_length v_pressed v_streamFrames v_zeros v_level v_sum v_tail v_isPlayed v_found v_strange v_innerFails v_outerFails v_mostMarks v_unsure v_may v_mocks v_sumThen v_channel_5 8 r_7 (r_9, v_channel_10) hq_11) cal_X10_figures tw_1294 (q0 := 0) rfl rfl [0, 1] [2, 3, 4, 5] 6 [((av 10), .inl (cI, 20, .inl v_entryControl)), ((av 12), .inl (cI, 20, .inl v_entryIndex)), ((av 9), .inl (cI, 20, .inl v_entrySection)), ((av 11), .inl (cI, 20, .inl v_entryTrack))] rfl rfl rfl rfl rfl rfl rfl rfl rfl rfl rfl (Nat.le_of_ble_eq_true rfl) hl.1 ⟨Nat.le_of_ble_eq_true rfl, Nat.le_of_ble_eq_true rfl⟩ ⟨Nat.zero_le _, Nat.zero_le _⟩ dX10_makeChannel_77 (fun H locs hw => ?_)
      refine lv_istore_n (pc := 80) (lv' := [(3, .int r_9), (0, .ref a_this), (1, .int x1)]) hx hb dX10_makeChannel_80 rfl hl (by decide) rfl (fun ls hl => ?_)
      refine lv_aload_n (pc := 81) hx hb dX10_makeChannel_81 rfl (lv_at hl 1 rfl) ?_
      refine lv_iload_n (pc := 82) hx hb dX10_makeChannel_82 rfl (lv_at hl 0 rfl) ?_
      refine lv_aload_n (pc := 83) hx hb dX10_makeChannel_83 rfl (lv_at hl 1 rfl) ?_
      refine lv_iload_n (pc := 84) hx hb dX10_makeChannel_84 rfl (lv_at hl 2 rfl) ?_
      obtain ⟨r_12, hq_13, h⟩ := ob1_at h
      refine x_callV (pc := 85) (rest := [.int r_9, .ref a_this]) (stk := [.int r_12, .int r_9, .ref a_this]) (wX10_makeChannel cB cI cZ av a_this v_thrown v_size v_begins v_entries v_length v_pressed v_streamFrames v_zeros v_level v_sum v_tail v_isPlayed v_found v_strange v_innerFails v_outerFails v_mostMarks v_unsure v_may v_mocks v_sumThen v_channel_10 v_entryControl v_entryIndex v_entrySection v_entryTrack) C hw (ct_X10_indexOf l D cB cI cZ tw av a_this v_thrown v_size v_begins v_entries v_length v_pressed v_streamFrames v_zeros v_level v_sum v_tail v_isPlayed v_found v_strange v_innerFails v_outerFails v_mostMarks v_unsure v_may v_mocks v_sumThen v_entryIndex v_entrySection x1 r_12 hq_13) cal_X10_indexOf tw_1298 (q0 := 0) rfl rfl [0, 3, 4] [1, 2, 5] 6 [((av 21), .inl (cI, 96, .inl v_channel_10)), ((av 10), .inl (cI, 20, .inl v_entryControl)), ((av 11), .inl (cI, 20, .inl v_entryTrack))] rfl rfl rfl rfl rfl rfl rfl rfl rfl rfl rfl (Nat.le_of_ble_eq_true rfl) hl.1 ⟨Nat.le_of_ble_eq_true rfl, Nat.le_of_ble_eq_true rfl⟩ ⟨Nat.zero_le _, Nat.zero_le _⟩ dX10_makeChannel_85 (fun H locs hw => ?_)
      obtain ⟨r_14, v_channel_15, hq_16, h⟩ := ob2_at h
      refine x_callV (pc := 88) (rest := []) (stk := [.int r_14]) (wX10_makeChannel cB cI cZ av a_this v_thrown v_size v_begins v_entries v_length v_pressed v_streamFrames v_zeros v_level v_sum v_tail v_isPlayed v_found v_strange v_innerFails v_outerFails v_mostMarks v_unsure v_may v_mocks v_sumThen v_channel_15 v_entryControl v_entryIndex v_entrySection v_entryTrack) C hw (ct_X10_figures l D cB cI cZ tw av a_this v_thrown v_size v_begins v_entries v_length v_pressed v_streamFrames v_zeros v_level v_sum v_tail v_isPlayed v_found v_strange v_innerFails v_outerFails v_mostMarks v_unsure v_may v_mocks v_sumThen v_channel_10 r_9 r_12 (r_14, v_channel_15) hq_16) cal_X10_figures tw_1294 (q0 := 0) rfl rfl [0, 1] [2, 3, 4, 5] 6 [((av 10), .inl (cI, 20, .inl v_entryControl)), ((av 12), .inl (cI, 20, .inl v_entryIndex)), ((av 9), .inl (cI, 20, .inl v_entrySection)), ((av 11), .inl (cI, 20, .inl v_entryTrack))] rfl rfl rfl rfl rfl rfl rfl rfl rfl rfl rfl (Nat.le_of_ble_eq_true rfl) hl.1 ⟨Nat.le_of_ble_eq_true rfl, Nat.le_of_ble_eq_true rfl⟩ ⟨Nat.zero_le _, Nat.zero_le _⟩ dX10_makeChannel_88 (fun H locs hw => ?_)
      refine lv_istore_n (pc := 91) (lv' := [(3, .int r_14), (0, .ref a_this), (1, .int x1)]) hx hb dX10_makeChannel_91 rfl hl (by decide) rfl (fun ls hl => ?_)
      refine lv_aload_n (pc := 92) hx hb dX10_makeChannel_92 rfl (lv_at hl 1 rfl) ?_
      refine lv_iload_n (pc := 93) hx hb dX10_makeChannel_93 rfl (lv_at hl 0 rfl) ?_
      refine lv_aload_n (pc := 94) hx hb dX10_makeChannel_94 rfl (lv_at hl 1 rfl) ?_
      refine lv_iload_n (pc := 95) hx hb dX10_makeChannel_95 rfl (lv_at hl 2 rfl) ?_
      obtain ⟨r_17, hq_18, h⟩ := ob1_at h
      refine x_callV (pc := 96) (rest := [.int r_14, .ref a_this]) (stk := [.int r_17, .int r_14, .ref a_this]) (wX10_makeChannel cB cI cZ av a_this v_thrown v_size v_begins v_entries v_length v_pressed v_streamFrames v_zeros v_level v_sum v_tail v_isPlayed v_found v_strange v_innerFails v_outerFails v_mostMarks v_unsure v_may v_mocks v_sumThen v_channel_15 v_entryControl v_entryIndex v_entrySection v_entryTrack) C hw (ct_X10_timeOf l D cB cI cZ tw av a_this v_thrown v_size v_begins v_entries v_length v_pressed v_streamFrames v_zeros v_level v_sum v_tail v_isPlayed v_found v_strange v_innerFails v_outerFails v_mostMarks v_unsure v_may v_mocks v_sumThen v_entryIndex v_entrySection v_entryTrack x1 r_17 hq_18) cal_X10_timeOf tw_1302 (q0 := 0) rfl rfl [0, 3, 4, 5] [1, 2] 6 [((av 21), .inl (cI, 96, .inl v_channel_15)), ((av 10), .inl (cI, 20, .inl v_entryControl))] rfl rfl rfl rfl rfl rfl rfl rfl rfl rfl rfl (Nat.le_of_ble_eq_true rfl) hl.1 ⟨Nat.le_of_ble_eq_true rfl, Nat.le_of_ble_eq_true rfl⟩ ⟨Nat.zero_le _, Nat.zero_le _⟩ dX10_makeChannel_96 (fun H locs hw => ?_)
      obtain ⟨r_19, v_channel_20, hq_21, h⟩ := ob2_at h
      refine x_callV (pc := 99) (rest := []) (stk := [.int r_19]) (wX10_makeChannel cB cI cZ av a_this v_thrown v_size v_begins v_entries v_length v_pressed v_streamFrames v_zeros v_level v_sum v_tail v_isPlayed v_found v_strange v_innerFails v_outerFails v_mostMarks v_unsure v_may v_mocks v_sumThen v_channel_20 v_entryControl v_entryIndex v_entrySection v_entryTrack) C hw (ct_X10_clock l D cB cI cZ tw av a_this v_thrown v_size v_begins v_entries v_length v_pressed v_streamFrames v_zeros v_level v_sum v_tail v_isPlayed v_found v_strange v_innerFails v_outerFails v_mostMarks v_unsure v_may v_mocks v_sumThen v_channel_15 r_14 r_17 (r_19, v_channel_20) hq_21) cal_X10_clock tw_1306 (q0 := 0) rfl rfl [0, 1] [2, 3, 4, 5] 6 [((av 10), .inl (cI, 20, .inl v_entryControl)), ((av 12), .inl (cI, 20, .inl v_entryIndex)), ((av 9), .inl (cI, 20, .inl v_entrySection)), ((av 11), .inl (cI, 20, .inl v_entryTrack))] rfl rfl rfl rfl rfl rfl rfl rfl rfl rfl rfl (Nat.le_of_ble_eq_true rfl) hl.1 ⟨Nat.le_of_ble_eq_true rfl, Nat.le_of_ble_eq_true rfl⟩ ⟨Nat.zero_le _, Nat.zero_le _⟩ dX10_makeChannel_99 (fun H locs hw => ?_)
      refine lv_istore_n (pc := 102) (lv' := [(3, .int r_19), (0, .ref a_this), (1, .int x1)]) hx hb dX10_makeChannel_102 rfl hl (by decide) rfl (fun ls hl => ?_)
      refine lv_aload_n (pc := 103) hx hb dX10_makeChannel_103 rfl (lv_at hl 1 rfl) ?_
      refine lv_iload_n (pc := 104) hx hb dX10_makeChannel_104 rfl (lv_at hl 0 rfl) ?_
      refine lv_iconst (pc := 105) (v := 0) hx hb dX10_makeChannel_105 (by decide) ?_
      obtain ⟨r_22, v_channel_23, hq_24, h⟩ := ob2_at h
      refine x_callV (pc := 106) (rest := []) (stk := [.int r_22]) (wX10_makeChannel cB cI cZ av a_this v_thrown v_size v_begins v_entries v_length v_pressed v_streamFrames v_zeros v_level v_sum v_tail v_isPlayed v_found v_strange v_innerFails v_outerFails v_mostMarks v_unsure v_may v_mocks v_sumThen v_channel_23 v_entryControl v_entryIndex v_entrySection v_entryTrack) C hw (ct_X10_figures l D cB cI cZ tw av a_this v_thrown v_size v_begins v_entries v_length v_pressed v_streamFrames v_zeros v_level v_sum v_tail v_isPlayed v_found v_strange v_innerFails v_outerFails v_mostMarks v_unsure v_may v_mocks v_sumThen v_channel_20 r_19 0 (r_22, v_channel_23) hq_24) cal_X10_figures tw_1294 (q0 := 0) rfl rfl [0, 1] [2, 3, 4, 5] 6 [((av 10), .inl (cI, 20, .inl v_entryControl)), ((av 12), .inl (cI, 20, .inl v_entryIndex)), ((av 9), .inl (cI, 20, .inl v_entrySection)), ((av 11), .inl (cI, 20, .inl v_entryTrack))] rfl rfl rfl rfl rfl rfl rfl rfl rfl rfl rfl (Nat.le_of_ble_eq_true rfl) hl.1 ⟨Nat.le_of_ble_eq_true rfl, Nat.le_of_ble_eq_true rfl⟩ ⟨Nat.zero_le _, Nat.zero_le _⟩ dX10_makeChannel_106 (fun H locs hw => ?_)
      refine lv_istore_n (pc := 109) (lv' := [(3, .int r_22), (0, .ref a_this), (1, .int x1)]) hx hb dX10_makeChannel_109 rfl hl (by decide) rfl (fun ls hl => ?_)
      refine lv_aload_n (pc := 110) hx hb dX10_makeChannel_110 rfl (lv_at hl 1 rfl) ?_
      refine lv_iload_n (pc := 111) hx hb dX10_makeChannel_111 rfl (lv_at hl 0 rfl) ?_
      refine lv_iload_n (pc := 112) hx hb dX10_makeChannel_112 rfl (lv_at hl 2 rfl) ?_
      refine lv_aload_n (pc := 113) hx hb dX10_makeChannel_113 rfl (lv_at hl 1 rfl) ?_
      refine gf_X10_157 (pc := 114) C hw 0 rfl rfl dX10_makeChannel_114 ?_
      refine lv_iadd (pc := 117) hx hb dX10_makeChannel_117 ?_
      obtain ⟨r_25, v_channel_26, hq_27, h⟩ := ob2_at h
      refine x_callV (pc := 118) (rest := []) (stk := [.int r_25]) (wX10_makeChannel cB cI cZ av a_this v_thrown v_size v_begins v_entries v_length v_pressed v_streamFrames v_zeros v_level v_sum v_tail v_isPlayed v_found v_strange v_innerFails v_outerFails v_mostMarks v_unsure v_may v_mocks v_sumThen v_channel_26 v_entryControl v_entryIndex v_entrySection v_entryTrack) C hw (ct_X10_clock l D cB cI cZ tw av a_this v_thrown v_size v_begins v_entries v_length v_pressed v_streamFrames v_zeros v_level v_sum v_tail v_isPlayed v_found v_strange v_innerFails v_outerFails v_mostMarks v_unsure v_may v_mocks v_sumThen v_channel_23 r_22 (x1 + v_begins) (r_25, v_channel_26) hq_27) cal_X10_clock tw_1306 (q0 := 0) rfl rfl [0, 1] [2, 3, 4, 5] 6 [((av 10), .inl (cI, 20, .inl v_entryControl)), ((av 12), .inl (cI, 20, .inl v_entryIndex)), ((av 9), .inl (cI, 20, .inl v_entrySection)), ((av 11), .inl (cI, 20, .inl v_entryTrack))] rfl rfl rfl rfl rfl rfl rfl rfl rfl rfl rfl (Nat.le_of_ble_eq_true rfl) hl.1 ⟨Nat.le_of_ble_eq_true rfl, Nat.le_of_ble_eq_true rfl⟩ ⟨Nat.zero_le _, Nat.zero_le _⟩ dX10_makeChannel_118 (fun H locs hw => ?_)
      refine lv_istore_n (pc := 121) (lv' := [(3, .int r_25), (0, .ref a_this), (1, .int x1)]) hx hb dX10_makeChannel_121 rfl hl (by decide) rfl (fun ls hl => ?_)
      refine lv_iconst (pc := 122) (v := 0) hx hb dX10_makeChannel_122 (by decide) ?_
      refine lv_istore (pc := 123) (lv' := [(4, .int 0), (3, .int r_25), (0, .ref a_this), (1, .int x1)]) hx hb dX10_makeChannel_123 hl (by decide) rfl (fun ls hl => ?_)
      refine lv_iconst (pc := 125) (v := 0) hx hb dX10_makeChannel_125 (by decide) ?_
      refine lv_istore (pc := 126) (lv' := [(5, .int 0), (4, .int 0), (3, .int r_25), (0, .ref a_this), (1, .int x1)]) hx hb dX10_makeChannel_126 hl (by decide) rfl (fun ls hl => ?_)
      obtain ⟨j155_29, ej155_29, h⟩ := jk_at h
      have J155_29 : ∀ (x4_28 : Int32) (ls : Array Slot) (H : Heap) (locs : List Loc), lv_has ls 6 [(4, .int x4_28), (0, .ref a_this)] → Wd D A s (wX10_makeChannel cB cI cZ av a_this v_thrown v_size v_begins v_entries v_length v_pressed v_streamFrames v_zeros v_level v_sum v_tail v_isPlayed v_found v_strange v_innerFails v_outerFails v_mostMarks v_unsure v_may v_mocks v_sumThen v_channel_26 v_entryControl v_entryIndex v_entrySection v_entryTrack) H locs → j155_29 x4_28 = some res → W p l e (rmK 3 66) s m ([.ref a_this, .int x1] : List Value).toArray below meth c H locs 0 0 (MQ below (QG D (tyL cB cI cZ) A (fun _ : (Nat → Int32) => none) (fun res : (Nat → Int32) => (wX10_makeChannel cB cI cZ av a_this v_thrown v_size v_begins v_entries v_length v_pressed v_streamFrames v_zeros v_level v_sum v_tail v_isPlayed v_found v_strange v_innerFails v_outerFails v_mostMarks v_unsure v_may v_mocks v_sumThen res v_entryControl v_entryIndex v_entrySection v_entryTrack)) res) ([.ref a_this, .int x1] : List Value).toArray s 0 0 A) (F0 m 155 ls []) := by
        intro x4_28 ls H locs hl hw h
        have h := k1_at ej155_29 h
        refine lv_iconst (pc := 155) (v := 0) hx hb dX10_makeChannel_155 (by decide) ?_
        refine lv_istore (pc := 156) (lv' := [(5, .int 0), (4, .int x4_28), (0, .ref a_this)]) hx hb dX10_makeChannel_156 hl (by decide) rfl (fun ls hl => ?_)
        have Lih158_32 : ∀ (F : Nat) (x5_30 : Int32) (v_channel_31 : Nat → Int32) (ls : Array Slot) (H : Heap) (locs : List Loc), lv_has ls 6 [(5, .int x5_30), (4, .int x4_28), (0, .ref a_this)] → Wd D A s (wX10_makeChannel cB cI cZ av a_this v_thrown v_size v_begins v_entries v_length v_pressed v_streamFrames v_zeros v_level v_sum v_tail v_isPlayed v_found v_strange v_innerFails v_outerFails v_mostMarks v_unsure v_may v_mocks v_sumThen v_channel_31 v_entryControl v_entryIndex v_entrySection v_entryTrack) H locs → fX10_makeChannel_L158 x4_28 F x5_30 v_channel_31 = some res → W p l e (rmK 3 66) s m ([.ref a_this, .int x1] : List Value).toArray below meth c H locs 0 0 (MQ below (QG D (tyL cB cI cZ) A (fun _ : (Nat → Int32) => none) (fun res : (Nat → Int32) => (wX10_makeChannel cB cI cZ av a_this v_thrown v_size v_begins v_entries v_length v_pressed v_streamFrames v_zeros v_level v_sum v_tail v_isPlayed v_found v_strange v_innerFails v_outerFails v_mostMarks v_unsure v_may v_mocks v_sumThen res v_entryControl v_entryIndex v_entrySection v_entryTrack)) res) ([.ref a_this, .int x1] : List Value).toArray s 0 0 A) (F0 m 158 ls []) := by
          intro F
          induction F with
          | zero => intro x5_30 v_channel_31 ls H locs hl hw h; rw [fX10_makeChannel_L158.eq_1] at h; cases h
          | succ F158_32 ih158_32 =>
            intro x5_30 v_channel_31 ls H locs hl hw h
            rw [fX10_makeChannel_L158.eq_2] at h
            refine lv_iload (pc := 158) hx hb dX10_makeChannel_158 (lv_at hl 0 rfl) ?_
            refine lv_bipush (pc := 160) (v := 16) hx hb dX10_makeChannel_160 (by decide) ?_
            refine lv_icmp_ge (pc := 162) (tgt := 193) hx hb dX10_makeChannel_162 (by decide) (fun hc_33 => ?_) (fun hc_33 => ?_)
            · have h := ift hc_33 h
              exact x_vret (pc := 193) (v := v_channel_31) C (Option.some.inj h) rfl hw dX10_makeChannel_193
            · have h := iff' hc_33 h
              refine lv_aload_n (pc := 165) hx hb dX10_makeChannel_165 rfl (lv_at hl 2 rfl) ?_
              refine gf_X10_42 (pc := 166) C hw 0 rfl rfl dX10_makeChannel_166 ?_
              refine lv_bipush (pc := 169) (v := 80) hx hb dX10_makeChannel_169 (by decide) ?_
              refine lv_iload (pc := 171) hx hb dX10_makeChannel_171 (lv_at hl 0 rfl) ?_
              refine lv_iadd (pc := 173) hx hb dX10_makeChannel_173 ?_
              refine lv_iload (pc := 174) hx hb dX10_makeChannel_174 (lv_at hl 1 rfl) ?_
              refine lv_bipush (pc := 176) (v := 15) hx hb dX10_makeChannel_176 (by decide) ?_
              refine lv_iload (pc := 178) hx hb dX10_makeChannel_178 (lv_at hl 0 rfl) ?_
              refine lv_isub (pc := 180) hx hb dX10_makeChannel_180 ?_
              refine lv_ishr (pc := 181) hx hb dX10_makeChannel_181 ?_
              refine lv_iconst (pc := 182) (v := 1) hx hb dX10_makeChannel_182 (by decide) ?_
              refine lv_iand (pc := 183) hx hb dX10_makeChannel_183 ?_
              refine lv_iconst (pc := 184) (v := 1) hx hb dX10_makeChannel_184 (by decide) ?_
              refine lv_ixor (pc := 185) hx hb dX10_makeChannel_185 ?_
              obtain ⟨hi_34, h⟩ := og_at h
              obtain ⟨v_channel_35, ev_channel_35⟩ : ∃ y : Nat → Int32, y = upd v_channel_31 (Int32.toNatClampNeg ((80 : Int32) + x5_30)) (((x4_28 >>> (((15 : Int32) - x5_30) &&& 31) : Int32) &&& (1 : Int32)) ^^^ (1 : Int32)) := ⟨_, rfl⟩
              have h := nm_at ev_channel_35 h
              refine x_iast (pc := 186) (wX10_makeChannel cB cI cZ av a_this v_thrown v_size v_begins v_entries v_length v_pressed v_streamFrames v_zeros v_level v_sum v_tail v_isPlayed v_found v_strange v_innerFails v_outerFails v_mostMarks v_unsure v_may v_mocks v_sumThen v_channel_35 v_entryControl v_entryIndex v_entrySection v_entryTrack) C hw 1 rfl hi_34 (by rw [ev_channel_35]; rfl) dX10_makeChannel_186 (fun H locs hw => ?_)
              obtain ⟨x5_36, ex5_36⟩ : ∃ y : Int32, y = x5_30 + 1 := ⟨_, rfl⟩
              have h := nm_at ex5_36 h
              refine lv_iinc (pc := 187) (v := x5_36) (lv' := [(5, .int x5_36), (4, .int x4_28), (0, .ref a_this)]) hx hb dX10_makeChannel_187 hl (k := 0) rfl (by rw [ex5_36]; rfl) (by decide) rfl (fun ls hl => ?_)
              refine lv_goto (pc := 190) (tgt := 158) hx hb dX10_makeChannel_190 (by decide) ?_
              exact ih158_32 x5_36 v_channel_35 ls _ _ (lv_sub hl [0, 1, 2] rfl) hw h
        exact Lih158_32 FU 0 v_channel_26 ls _ _ (lv_sub hl [0, 1, 2] rfl) hw h
      have Lih128_39 : ∀ (F : Nat) (x5_37 : Int32) (x4_38 : Int32) (ls : Array Slot) (H : Heap) (locs : List Loc), lv_has ls 6 [(5, .int x5_37), (4, .int x4_38), (0, .ref a_this)] → Wd D A s (wX10_makeChannel cB cI cZ av a_this v_thrown v_size v_begins v_entries v_length v_pressed v_streamFrames v_zeros v_level v_sum v_tail v_isPlayed v_found v_strange v_innerFails v_outerFails v_mostMarks v_unsure v_may v_mocks v_sumThen v_channel_26 v_entryControl v_entryIndex v_entrySection v_entryTrack) H locs → fX10_makeChannel_L128 j155_29 v_channel_26 F x5_37 x4_38 = some res → W p l e (rmK 3 66) s m ([.ref a_this, .int x1] : List Value).toArray below meth c H locs 0 0 (MQ below (QG D (tyL cB cI cZ) A (fun _ : (Nat → Int32) => none) (fun res : (Nat → Int32) => (wX10_makeChannel cB cI cZ av a_this v_thrown v_size v_begins v_entries v_length v_pressed v_streamFrames v_zeros v_level v_sum v_tail v_isPlayed v_found v_strange v_innerFails v_outerFails v_mostMarks v_unsure v_may v_mocks v_sumThen res v_entryControl v_entryIndex v_entrySection v_entryTrack)) res) ([.ref a_this, .int x1] : List Value).toArray s 0 0 A) (F0 m 128 ls []) := by
        intro F
        induction F with
        | zero => intro x5_37 x4_38 ls H locs hl hw h; rw [fX10_makeChannel_L128.eq_1] at h; cases h
        | succ F128_39 ih128_39 =>
          intro x5_37 x4_38 ls H locs hl hw h
          rw [fX10_makeChannel_L128.eq_2] at h
          refine lv_iload (pc := 128) hx hb dX10_makeChannel_128 (lv_at hl 0 rfl) ?_
          refine lv_bipush (pc := 130) (v := 80) hx hb dX10_makeChannel_130 (by decide) ?_
          refine lv_icmp_ge (pc := 132) (tgt := 155) hx hb dX10_makeChannel_132 (by decide) (fun hc_40 => ?_) (fun hc_40 => ?_)
          · have h := ift hc_40 h
            exact J155_29 x4_38 ls _ _ (lv_sub hl [1, 2] rfl) hw h
          · have h := iff' hc_40 h
            refine lv_iload (pc := 135) hx hb dX10_makeChannel_135 (lv_at hl 1 rfl) ?_
            refine lv_aload_n (pc := 137) hx hb dX10_makeChannel_137 rfl (lv_at hl 2 rfl) ?_
            refine gf_X10_42 (pc := 138) C hw 0 rfl rfl dX10_makeChannel_138 ?_
            refine lv_iload (pc := 141) hx hb dX10_makeChannel_141 (lv_at hl 0 rfl) ?_
            obtain ⟨hi_41, h⟩ := og_at h
            refine x_iald (pc := 143) C hw 1 rfl hi_41 dX10_makeChannel_143 ?_
            obtain ⟨r_42, hq_43, h⟩ := nt1_at h
            refine x_callS (pc := 144) (rest := []) (stk := [.int r_42]) (wX10_makeChannel cB cI cZ av a_this v_thrown v_size v_begins v_entries v_length v_pressed v_streamFrames v_zeros v_level v_sum v_tail v_isPlayed v_found v_strange v_innerFails v_outerFails v_mostMarks v_unsure v_may v_mocks v_sumThen v_channel_26 v_entryControl v_entryIndex v_entrySection v_entryTrack) C hw (ct_X10_checkStep l D cB cI cZ tw av x4_38 (v_channel_26 (Int32.toNatClampNeg x5_37)) r_42 hq_43.symm) cal_X10_checkStep tw_1310 [] [0, 1, 2, 3, 4, 5] 6 [oX10 a_this av v_thrown v_size v_begins v_entries v_length v_pressed v_streamFrames v_zeros v_level v_sum v_tail v_isPlayed v_found v_strange v_innerFails v_outerFails v_mostMarks v_unsure v_may v_mocks v_sumThen, ((av 21), .inl (cI, 96, .inl v_channel_26)), ((av 10), .inl (cI, 20, .inl v_entryControl)), ((av 12), .inl (cI, 20, .inl v_entryIndex)), ((av 9), .inl (cI, 20, .inl v_entrySection)), ((av 11), .inl (cI, 20, .inl v_entryTrack))] rfl rfl rfl rfl rfl rfl rfl rfl rfl rfl rfl (Nat.le_of_ble_eq_true rfl) hl.1 ⟨Nat.le_of_ble_eq_true rfl, Nat.le_of_ble_eq_true rfl⟩ ⟨Nat.zero_le _, Nat.zero_le _⟩ dX10_makeChannel_144 (fun H locs hw => ?_)
            refine lv_istore (pc := 147) (lv' := [(4, .int r_42), (5, .int x5_37), (0, .ref a_this)]) hx hb dX10_makeChannel_147 hl (by decide) rfl (fun ls hl => ?_)
            obtain ⟨x5_44, ex5_44⟩ : ∃ y : Int32, y = x5_37 + 1 := ⟨_, rfl⟩
            have h := nm_at ex5_44 h
            refine lv_iinc (pc := 149) (v := x5_44) (lv' := [(5, .int x5_44), (4, .int r_42), (0, .ref a_this)]) hx hb dX10_makeChannel_149 hl (k := 1) rfl (by rw [ex5_44]; rfl) (by decide) rfl (fun ls hl => ?_)
            refine lv_goto (pc := 152) (tgt := 128) hx hb dX10_makeChannel_152 (by decide) ?_
            exact ih128_39 x5_44 r_42 ls _ _ (lv_sub hl [0, 1, 2] rfl) hw h
      exact Lih128_39 FU 0 0 ls _ _ (lv_sub hl [0, 1, 3] rfl) hw h
    have Lih25_47 : ∀ (F : Nat) (x3_45 : Int32) (v_channel_46 : Nat → Int32) (ls : Array Slot) (H : Heap) (locs : List Loc), lv_has ls 6 [(3, .int x3_45), (2, .int t_3), (0, .ref a_this), (1, .int x1)] → Wd D A s (wX10_makeChannel cB cI cZ av a_this v_thrown v_size v_begins v_entries v_length v_pressed v_streamFrames v_zeros v_level v_sum v_tail v_isPlayed v_found v_strange v_innerFails v_outerFails v_mostMarks v_unsure v_may v_mocks v_sumThen v_channel_46 v_entryControl v_entryIndex v_entrySection v_entryTrack) H locs → fX10_makeChannel_L25 j69_6 t_3 F x3_45 v_channel_46 = some res → W p l e (rmK 3 66) s m ([.ref a_this, .int x1] : List Value).toArray below meth c H locs 0 0 (MQ below (QG D (tyL cB cI cZ) A (fun _ : (Nat → Int32) => none) (fun res : (Nat → Int32) => (wX10_makeChannel cB cI cZ av a_this v_thrown v_size v_begins v_entries v_length v_pressed v_streamFrames v_zeros v_level v_sum v_tail v_isPlayed v_found v_strange v_innerFails v_outerFails v_mostMarks v_unsure v_may v_mocks v_sumThen res v_entryControl v_entryIndex v_entrySection v_entryTrack)) res) ([.ref a_this, .int x1] : List Value).toArray s 0 0 A) (F0 m 25 ls []) := by
      intro F
      induction F with
      | zero => intro x3_45 v_channel_46 ls H locs hl hw h; rw [fX10_makeChannel_L25.eq_1] at h; cases h
      | succ F25_47 ih25_47 =>
        intro x3_45 v_channel_46 ls H locs hl hw h
        rw [fX10_makeChannel_L25.eq_2] at h
        refine lv_iload_n (pc := 25) hx hb dX10_makeChannel_25 rfl (lv_at hl 0 rfl) ?_
        refine lv_bipush (pc := 26) (v := 8) hx hb dX10_makeChannel_26 (by decide) ?_
        refine lv_icmp_ge (pc := 28) (tgt := 69) hx hb dX10_makeChannel_28 (by decide) (fun hc_48 => ?_) (fun hc_48 => ?_)
        · have h := ift hc_48 h
          exact J69_6 v_channel_46 ls _ _ (lv_sub hl [2, 3] rfl) hw h
        · have h := iff' hc_48 h
          refine lv_aload_n (pc := 31) hx hb dX10_makeChannel_31 rfl (lv_at hl 2 rfl) ?_
          refine gf_X10_42 (pc := 32) C hw 0 rfl rfl dX10_makeChannel_32 ?_
          refine lv_iload_n (pc := 35) hx hb dX10_makeChannel_35 rfl (lv_at hl 0 rfl) ?_
          refine lv_iload_n (pc := 36) hx hb dX10_makeChannel_36 rfl (lv_at hl 0 rfl) ?_
          refine lv_iconst (pc := 37) (v := 4) hx hb dX10_makeChannel_37 (by decide) ?_
          obtain ⟨j62_50, ej62_50, h⟩ := jk_at h
          have J62_50 : ∀ (t_49 : Int32) (ls : Array Slot) (H : Heap) (locs : List Loc), lv_has ls 6 [(3, .int x3_45), (2, .int t_3), (0, .ref a_this), (1, .int x1)] → Wd D A s (wX10_makeChannel cB cI cZ av a_this v_thrown v_size v_begins v_entries v_length v_pressed v_streamFrames v_zeros v_level v_sum v_tail v_isPlayed v_found v_strange v_innerFails v_outerFails v_mostMarks v_unsure v_may v_mocks v_sumThen v_channel_46 v_entryControl v_entryIndex v_entrySection v_entryTrack) H locs → j62_50 t_49 = some res → W p l e (rmK 3 66) s m ([.ref a_this, .int x1] : List Value).toArray below meth c H locs 0 0 (MQ below (QG D (tyL cB cI cZ) A (fun _ : (Nat → Int32) => none) (fun res : (Nat → Int32) => (wX10_makeChannel cB cI cZ av a_this v_thrown v_size v_begins v_entries v_length v_pressed v_streamFrames v_zeros v_level v_sum v_tail v_isPlayed v_found v_strange v_innerFails v_outerFails v_mostMarks v_unsure v_may v_mocks v_sumThen res v_entryControl v_entryIndex v_entrySection v_entryTrack)) res) ([.ref a_this, .int x1] : List Value).toArray s 0 0 A) (F0 m 62 ls [.int t_49, .int x3_45, .ref (av 21)]) := by
            intro t_49 ls H locs hl hw h
            have h := k1_at ej62_50 h
            obtain ⟨hi_51, h⟩ := og_at h
            obtain ⟨v_channel_52, ev_channel_52⟩ : ∃ y : Nat → Int32, y = upd v_channel_46 (Int32.toNatClampNeg x3_45) t_49 := ⟨_, rfl⟩
            have h := nm_at ev_channel_52 h
            refine x_iast (pc := 62) (wX10_makeChannel cB cI cZ av a_this v_thrown v_size v_begins v_entries v_length v_pressed v_streamFrames v_zeros v_level v_sum v_tail v_isPlayed v_found v_strange v_innerFails v_outerFails v_mostMarks v_unsure v_may v_mocks v_sumThen v_channel_52 v_entryControl v_entryIndex v_entrySection v_entryTrack) C hw 1 rfl hi_51 (by rw [ev_channel_52]; rfl) dX10_makeChannel_62 (fun H locs hw => ?_)
            obtain ⟨x3_53, ex3_53⟩ : ∃ y : Int32, y = x3_45 + 1 := ⟨_, rfl⟩
            have h := nm_at ex3_53 h
            refine lv_iinc (pc := 63) (v := x3_53) (lv' := [(3, .int x3_53), (2, .int t_3), (0, .ref a_this), (1, .int x1)]) hx hb dX10_makeChannel_63 hl (k := 0) rfl (by rw [ex3_53]; rfl) (by decide) rfl (fun ls hl => ?_)
            refine lv_goto (pc := 66) (tgt := 25) hx hb dX10_makeChannel_66 (by decide) ?_
            exact ih25_47 x3_53 v_channel_52 ls _ _ (lv_sub hl [0, 1, 2, 3] rfl) hw h
          refine lv_icmp_ge (pc := 38) (tgt := 51) hx hb dX10_makeChannel_38 (by decide) (fun hc_54 => ?_) (fun hc_54 => ?_)
          · have h := ift hc_54 h
            refine lv_iload_n (pc := 51) hx hb dX10_makeChannel_51 rfl (lv_at hl 0 rfl) ?_
            refine lv_bipush (pc := 52) (v := 7) hx hb dX10_makeChannel_52 (by decide) ?_
            refine lv_icmp_ne (pc := 54) (tgt := 61) hx hb dX10_makeChannel_54 (by decide) (fun hc_55 => ?_) (fun hc_55 => ?_)
            · have h := iff' hc_55 h
              refine lv_iconst (pc := 61) (v := 0) hx hb dX10_makeChannel_61 (by decide) ?_
              exact J62_50 0 ls _ _ (lv_sub hl [0, 1, 2, 3] rfl) hw h
            · have h := ift hc_55 h
              refine lv_iconst (pc := 57) (v := 1) hx hb dX10_makeChannel_57 (by decide) ?_
              refine lv_goto (pc := 58) (tgt := 62) hx hb dX10_makeChannel_58 (by decide) ?_
              exact J62_50 1 ls _ _ (lv_sub hl [0, 1, 2, 3] rfl) hw h
          · have h := iff' hc_54 h
            refine lv_iload_n (pc := 41) hx hb dX10_makeChannel_41 rfl (lv_at hl 1 rfl) ?_
            refine lv_iconst (pc := 42) (v := 3) hx hb dX10_makeChannel_42 (by decide) ?_
            refine lv_iload_n (pc := 43) hx hb dX10_makeChannel_43 rfl (lv_at hl 0 rfl) ?_
            refine lv_isub (pc := 44) hx hb dX10_makeChannel_44 ?_
            refine lv_ishr (pc := 45) hx hb dX10_makeChannel_45 ?_
            refine lv_iconst (pc := 46) (v := 1) hx hb dX10_makeChannel_46 (by decide) ?_
            refine lv_iand (pc := 47) hx hb dX10_makeChannel_47 ?_
            refine lv_goto (pc := 48) (tgt := 62) hx hb dX10_makeChannel_48 (by decide) ?_
            exact J62_50 ((t_3 >>> (((3 : Int32) - x3_45) &&& 31) : Int32) &&& (1 : Int32)) ls _ _ (lv_sub hl [0, 1, 2, 3] rfl) hw h
    exact Lih25_47 FU 0 v_channel ls _ _ (lv_sub hl [0, 1, 2, 3] rfl) hw h
  refine lv_if_ge (pc := 5) (tgt := 12) hx hb dX10_makeChannel_5 (by decide) (fun hc_56 => ?_) (fun hc_56 => ?_)
  · have h := ift hc_56 h
    refine lv_aload_n (pc := 12) hx hb dX10_makeChannel_12 rfl (lv_at hl 0 rfl) ?_
    refine gf_X10_29 (pc := 13) C hw 0 rfl rfl dX10_makeChannel_13 ?_
    refine lv_aload_n (pc := 16) hx hb dX10_makeChannel_16 rfl (lv_at hl 0 rfl) ?_
    refine lv_iload_n (pc := 17) hx hb dX10_makeChannel_17 rfl (lv_at hl 1 rfl) ?_
    obtain ⟨r_57, hq_58, h⟩ := ob1_at h
    refine x_callV (pc := 18) (rest := [.ref (av 10)]) (stk := [.int r_57, .ref (av 10)]) (wX10_makeChannel cB cI cZ av a_this v_thrown v_size v_begins v_entries v_length v_pressed v_streamFrames v_zeros v_level v_sum v_tail v_isPlayed v_found v_strange v_innerFails v_outerFails v_mostMarks v_unsure v_may v_mocks v_sumThen v_channel v_entryControl v_entryIndex v_entrySection v_entryTrack) C hw (ct_X10_entryFor l D cB cI cZ tw av a_this v_thrown v_size v_begins v_entries v_length v_pressed v_streamFrames v_zeros v_level v_sum v_tail v_isPlayed v_found v_strange v_innerFails v_outerFails v_mostMarks v_unsure v_may v_mocks v_sumThen v_entrySection x1 r_57 hq_58) cal_X10_entryFor tw_1286 (q0 := 0) rfl rfl [0, 4] [1, 2, 3, 5] 6 [((av 21), .inl (cI, 96, .inl v_channel)), ((av 10), .inl (cI, 20, .inl v_entryControl)), ((av 12), .inl (cI, 20, .inl v_entryIndex)), ((av 11), .inl (cI, 20, .inl v_entryTrack))] rfl rfl rfl rfl rfl rfl rfl rfl rfl rfl rfl (Nat.le_of_ble_eq_true rfl) hl.1 ⟨Nat.le_of_ble_eq_true rfl, Nat.le_of_ble_eq_true rfl⟩ ⟨Nat.zero_le _, Nat.zero_le _⟩ dX10_makeChannel_18 (fun H locs hw => ?_)
    obtain ⟨hi_59, h⟩ := og_at h
    refine x_iald (pc := 21) C hw 2 rfl hi_59 dX10_makeChannel_21 ?_
    exact J22_4 (v_entryControl (Int32.toNatClampNeg r_57)) ls _ _ (lv_sub hl [0, 1] rfl) hw h
  · have h := iff' hc_56 h
    refine lv_iconst (pc := 8) (v := 0) hx hb dX10_makeChannel_8 (by decide) ?_
    refine lv_goto (pc := 9) (tgt := 22) hx hb dX10_makeChannel_9 (by decide) ?_
    exact J22_4 0 ls _ _ (lv_sub hl [0, 1] rfl) hw h
def wX10_besideWord (cB cI cZ : ClassId) (av : Nat → Nat) (a_this : Nat) (v_thrown : Int32) (v_size : Int32) (v_begins : Int32) (v_entries : Int32) (v_length : Int32) (v_pressed : Int32) (v_streamFrames : Int32) (v_zeros : Int32) (v_level : Int32) (v_sum : Int32) (v_tail : Int32) (v_isPlayed : Int32) (v_found : Int32) (v_strange : Int32) (v_innerFails : Int32) (v_outerFails : Int32) (v_mostMarks : Int32) (v_unsure : Int32) (v_may : Int32) (v_mocks : Int32) (v_sumThen : Int32) (v_channel : Nat → Int32) (v_entryControl : Nat → Int32) (v_entryIndex : Nat → Int32) (v_entrySection : Nat → Int32) (v_entryTrack : Nat → Int32) (v_words : Nat → Int32) : va_W := [oX10 a_this av v_thrown v_size v_begins v_entries v_length v_pressed v_streamFrames v_zeros v_level v_sum v_tail v_isPlayed v_found v_strange v_innerFails v_outerFails v_mostMarks v_unsure v_may v_mocks v_sumThen, ((av 21), .inl (cI, 96, .inl v_channel)), ((av 10), .inl (cI, 20, .inl v_entryControl)), ((av 12), .inl (cI, 20, .inl v_entryIndex)), ((av 9), .inl (cI, 20, .inl v_entrySection)), ((av 11), .inl (cI, 20, .inl v_entryTrack)), ((av 1), .inl (cI, 256, .inl v_words))]
def fX10_besideWord (v_begins : Int32) (v_entries : Int32) (v_pressed : Int32) (v_channel : Nat → Int32) (v_entryControl : Nat → Int32) (v_entryIndex : Nat → Int32) (v_entrySection : Nat → Int32) (v_entryTrack : Nat → Int32) (v_words : Nat → Int32) (x1 : Int32) : Option (Int32 × (Nat → Int32)) := nm ((x1 - x1 / (98 : Int32) * (98 : Int32)) : Int32) fun x2_1 => jk (fun (v_channel_2 : Nat → Int32) => if (2 : Int32) ≤ x2_1 then ob1 (fX10_indexOf v_entries v_entryIndex v_entrySection (x1 / (98 : Int32))) fun r_5 => jk (fun (t_7 : Int32) => og (ixb (x2_1 - (2 : Int32)) 96) (og (ixb (t_7 + ((64 : Int32) * (v_channel_2 (Int32.toNatClampNeg (x2_1 - (2 : Int32)))))) 256) (some ((v_words (Int32.toNatClampNeg (t_7 + ((64 : Int32) * (v_channel_2 (Int32.toNatClampNeg (x2_1 - (2 : Int32)))))))), v_channel_2)))) fun j57_8 => if r_5 = 0 then j57_8 128 else j57_8 0 else if x2_1 = 0 then some (2049, v_channel_2) else some (18, v_channel_2)) fun j17_3 => if x2_1 = 0 then ob1 (fX10_makeChannel v_begins v_entries v_pressed v_channel v_entryControl v_entryIndex v_entrySection v_entryTrack (x1 / (98 : Int32))) fun v_channel_14 => j17_3 v_channel_14 else j17_3 v_channel
set_option maxHeartbeats 4000000 in
set_option maxRecDepth 100000 in
theorem ct_X10_besideWord (l : Launch) (D : va_G) (cB cI cZ : ClassId) (tw : Nat) (av : Nat → Nat) (a_this : Nat) (v_thrown : Int32) (v_size : Int32) (v_begins : Int32) (v_entries : Int32) (v_length : Int32) (v_pressed : Int32) (v_streamFrames : Int32) (v_zeros : Int32) (v_level : Int32) (v_sum : Int32) (v_tail : Int32) (v_isPlayed : Int32) (v_found : Int32) (v_strange : Int32) (v_innerFails : Int32) (v_outerFails : Int32) (v_mostMarks : Int32) (v_unsure : Int32) (v_may : Int32) (v_mocks : Int32) (v_sumThen : Int32) (v_channel : Nat → Int32) (v_entryControl : Nat → Int32) (v_entryIndex : Nat → Int32) (v_entrySection : Nat → Int32) (v_entryTrack : Nat → Int32) (v_words : Nat → Int32) (x1 : Int32) (res : Int32 × (Nat → Int32)) (h : fX10_besideWord v_begins v_entries v_pressed v_channel v_entryControl v_entryIndex v_entrySection v_entryTrack v_words x1 = some res) : Ctr l yX10_besideWord cX10_besideWord 3 (some .int) (rmK 4 91) D (tyL cB cI cZ) tw [.ref a_this, .int x1] (wX10_besideWord cB cI cZ av a_this v_thrown v_size v_begins v_entries v_length v_pressed v_streamFrames v_zeros v_level v_sum v_tail v_isPlayed v_found v_strange v_innerFails v_outerFails v_mostMarks v_unsure v_may v_mocks v_sumThen v_channel v_entryControl v_entryIndex v_entrySection v_entryTrack v_words) (fun res : Int32 × (Nat → Int32) => some (.int res.1)) (fun res : Int32 × (Nat → Int32) => (wX10_besideWord cB cI cZ av a_this v_thrown v_size v_begins v_entries v_length v_pressed v_streamFrames v_zeros v_level v_sum v_tail v_isPlayed v_found v_strange v_innerFails v_outerFails v_mostMarks v_unsure v_may v_mocks v_sumThen (res.2) v_entryControl v_entryIndex v_entrySection v_entryTrack v_words)) res := by
  refine ctr_of RX10 (by decide) rfl (Nat.le_of_ble_eq_true rfl) ?_
  intro p e s m below meth c A C hw ls hl
  have hx := C.1
  have hb := C.2.1
  have hl : lv_has ls 3 [(0, .ref a_this), (1, .int x1)] := hl
  unfold fX10_besideWord at h
  refine lv_iload_n (pc := 0) hx hb dX10_besideWord_0 rfl (lv_at hl 1 rfl) ?_
  refine lv_bipush (pc := 1) (v := 98) hx hb dX10_besideWord_1 (by decide) ?_
  refine lv_irem (pc := 3) hx hb dX10_besideWord_3 (by decide) ?_
  refine lv_topi (pc := 4) (fun x2_1 ex2_1 => ?_)
  have h := nm_at ex2_1 h
  refine lv_istore_n (pc := 4) (lv' := [(2, .int x2_1), (0, .ref a_this), (1, .int x1)]) hx hb dX10_besideWord_4 rfl hl (by decide) rfl (fun ls hl => ?_)
  refine lv_iload_n (pc := 5) hx hb dX10_besideWord_5 rfl (lv_at hl 0 rfl) ?_
  obtain ⟨j17_3, ej17_3, h⟩ := jk_at h
  have J17_3 : ∀ (v_channel_2 : Nat → Int32) (ls : Array Slot) (H : Heap) (locs : List Loc), lv_has ls 3 [(2, .int x2_1), (0, .ref a_this), (1, .int x1)] → Wd D A s (wX10_besideWord cB cI cZ av a_this v_thrown v_size v_begins v_entries v_length v_pressed v_streamFrames v_zeros v_level v_sum v_tail v_isPlayed v_found v_strange v_innerFails v_outerFails v_mostMarks v_unsure v_may v_mocks v_sumThen v_channel_2 v_entryControl v_entryIndex v_entrySection v_entryTrack v_words) H locs → j17_3 v_channel_2 = some res → W p l e (rmK 4 91) s m ([.ref a_this, .int x1] : List Value).toArray below meth c H locs 0 0 (MQ below (QG D (tyL cB cI cZ) A (fun res : Int32 × (Nat → Int32) => some (.int res.1)) (fun res : Int32 × (Nat → Int32) => (wX10_besideWord cB cI cZ av a_this v_thrown v_size v_begins v_entries v_length v_pressed v_streamFrames v_zeros v_level v_sum v_tail v_isPlayed v_found v_strange v_innerFails v_outerFails v_mostMarks v_unsure v_may v_mocks v_sumThen (res.2) v_entryControl v_entryIndex v_entrySection v_entryTrack v_words)) res) ([.ref a_this, .int x1] : List Value).toArray s 0 0 A) (F0 m 17 ls []) := by
    intro v_channel_2 ls H locs hl hw h
    have h := k1_at ej17_3 h
    refine lv_iload_n (pc := 17) hx hb dX10_besideWord_17 rfl (lv_at hl 0 rfl) ?_
    refine lv_iconst (pc := 18) (v := 2) hx hb dX10_besideWord_18 (by decide) ?_
    refine lv_icmp_ge (pc := 19) (tgt := 35) hx hb dX10_besideWord_19 (by decide) (fun hc_4 => ?_) (fun hc_4 => ?_)
    · have h := ift hc_4 h
      refine lv_aload_n (pc := 35) hx hb dX10_besideWord_35 rfl (lv_at hl 1 rfl) ?_
      refine gf_X10_7 (pc := 36) C hw 0 rfl rfl dX10_besideWord_36 ?_
      refine lv_aload_n (pc := 39) hx hb dX10_besideWord_39 rfl (lv_at hl 1 rfl) ?_
      refine lv_iload_n (pc := 40) hx hb dX10_besideWord_40 rfl (lv_at hl 2 rfl) ?_
      refine lv_bipush (pc := 41) (v := 98) hx hb dX10_besideWord_41 (by decide) ?_
      refine lv_idiv (pc := 43) hx hb dX10_besideWord_43 (by decide) ?_
      obtain ⟨r_5, hq_6, h⟩ := ob1_at h
      refine x_callV (pc := 44) (rest := [.ref (av 1)]) (stk := [.int r_5, .ref (av 1)]) (wX10_besideWord cB cI cZ av a_this v_thrown v_size v_begins v_entries v_length v_pressed v_streamFrames v_zeros v_level v_sum v_tail v_isPlayed v_found v_strange v_innerFails v_outerFails v_mostMarks v_unsure v_may v_mocks v_sumThen v_channel_2 v_entryControl v_entryIndex v_entrySection v_entryTrack v_words) C hw (ct_X10_indexOf l D cB cI cZ tw av a_this v_thrown v_size v_begins v_entries v_length v_pressed v_streamFrames v_zeros v_level v_sum v_tail v_isPlayed v_found v_strange v_innerFails v_outerFails v_mostMarks v_unsure v_may v_mocks v_sumThen v_entryIndex v_entrySection (x1 / (98 : Int32)) r_5 hq_6) cal_X10_indexOf tw_1298 (q0 := 0) rfl rfl [0, 3, 4] [1, 2, 5, 6] 7 [((av 21), .inl (cI, 96, .inl v_channel_2)), ((av 10), .inl (cI, 20, .inl v_entryControl)), ((av 11), .inl (cI, 20, .inl v_entryTrack)), ((av 1), .inl (cI, 256, .inl v_words))] rfl rfl rfl rfl rfl rfl rfl rfl rfl rfl rfl (Nat.le_of_ble_eq_true rfl) hl.1 ⟨Nat.le_of_ble_eq_true rfl, Nat.le_of_ble_eq_true rfl⟩ ⟨Nat.zero_le _, Nat.zero_le _⟩ dX10_besideWord_44 (fun H locs hw => ?_)
      obtain ⟨j57_8, ej57_8, h⟩ := jk_at h
      have J57_8 : ∀ (t_7 : Int32) (ls : Array Slot) (H : Heap) (locs : List Loc), lv_has ls 3 [(2, .int x2_1), (0, .ref a_this)] → Wd D A s (wX10_besideWord cB cI cZ av a_this v_thrown v_size v_begins v_entries v_length v_pressed v_streamFrames v_zeros v_level v_sum v_tail v_isPlayed v_found v_strange v_innerFails v_outerFails v_mostMarks v_unsure v_may v_mocks v_sumThen v_channel_2 v_entryControl v_entryIndex v_entrySection v_entryTrack v_words) H locs → j57_8 t_7 = some res → W p l e (rmK 4 91) s m ([.ref a_this, .int x1] : List Value).toArray below meth c H locs 0 0 (MQ below (QG D (tyL cB cI cZ) A (fun res : Int32 × (Nat → Int32) => some (.int res.1)) (fun res : Int32 × (Nat → Int32) => (wX10_besideWord cB cI cZ av a_this v_thrown v_size v_begins v_entries v_length v_pressed v_streamFrames v_zeros v_level v_sum v_tail v_isPlayed v_found v_strange v_innerFails v_outerFails v_mostMarks v_unsure v_may v_mocks v_sumThen (res.2) v_entryControl v_entryIndex v_entrySection v_entryTrack v_words)) res) ([.ref a_this, .int x1] : List Value).toArray s 0 0 A) (F0 m 57 ls [.int t_7, .ref (av 1)]) := by
        intro t_7 ls H locs hl hw h
        have h := k1_at ej57_8 h
        refine lv_bipush (pc := 57) (v := 64) hx hb dX10_besideWord_57 (by decide) ?_
        refine lv_aload_n (pc := 59) hx hb dX10_besideWord_59 rfl (lv_at hl 1 rfl) ?_
        refine gf_X10_42 (pc := 60) C hw 0 rfl rfl dX10_besideWord_60 ?_
        refine lv_iload_n (pc := 63) hx hb dX10_besideWord_63 rfl (lv_at hl 0 rfl) ?_
        refine lv_iconst (pc := 64) (v := 2) hx hb dX10_besideWord_64 (by decide) ?_
        refine lv_isub (pc := 65) hx hb dX10_besideWord_65 ?_
        obtain ⟨hi_9, h⟩ := og_at h
        refine x_iald (pc := 66) C hw 1 rfl hi_9 dX10_besideWord_66 ?_
        refine lv_imul (pc := 67) hx hb dX10_besideWord_67 ?_
        refine lv_iadd (pc := 68) hx hb dX10_besideWord_68 ?_
        obtain ⟨hi_10, h⟩ := og_at h
        refine x_iald (pc := 69) C hw 6 rfl hi_10 dX10_besideWord_69 ?_
        exact x_iret (pc := 70) (v := ((v_words (Int32.toNatClampNeg (t_7 + ((64 : Int32) * (v_channel_2 (Int32.toNatClampNeg (x2_1 - (2 : Int32)))))))), v_channel_2)) C (Option.some.inj h) rfl hw dX10_besideWord_70
      refine lv_if_ne (pc := 47) (tgt := 56) hx hb dX10_besideWord_47 (by decide) (fun hc_11 => ?_) (fun hc_11 => ?_)
      · have h := iff' hc_11 h
        refine lv_iconst (pc := 56) (v := 0) hx hb dX10_besideWord_56 (by decide) ?_
        exact J57_8 0 ls _ _ (lv_sub hl [0, 1] rfl) hw h
      · have h := ift hc_11 h
        refine lv_sipush (pc := 50) (v := 128) hx hb dX10_besideWord_50 (by decide) ?_
        refine lv_goto (pc := 53) (tgt := 57) hx hb dX10_besideWord_53 (by decide) ?_
        exact J57_8 128 ls _ _ (lv_sub hl [0, 1] rfl) hw h
    · have h := iff' hc_4 h
      refine lv_iload_n (pc := 22) hx hb dX10_besideWord_22 rfl (lv_at hl 0 rfl) ?_
      refine lv_if_ne (pc := 23) (tgt := 32) hx hb dX10_besideWord_23 (by decide) (fun hc_12 => ?_) (fun hc_12 => ?_)
      · have h := iff' hc_12 h
        refine lv_bipush (pc := 32) (v := 18) hx hb dX10_besideWord_32 (by decide) ?_
        exact x_iret (pc := 34) (v := (18, v_channel_2)) C (Option.some.inj h) rfl hw dX10_besideWord_34
      · have h := ift hc_12 h
        refine lv_sipush (pc := 26) (v := 2049) hx hb dX10_besideWord_26 (by decide) ?_
        refine lv_goto (pc := 29) (tgt := 34) hx hb dX10_besideWord_29 (by decide) ?_
        exact x_iret (pc := 34) (v := (2049, v_channel_2)) C (Option.some.inj h) rfl hw dX10_besideWord_34
  refine lv_if_ne (pc := 6) (tgt := 17) hx hb dX10_besideWord_6 (by decide) (fun hc_13 => ?_) (fun hc_13 => ?_)
  · have h := iff' hc_13 h
    exact J17_3 v_channel ls _ _ (lv_sub hl [0, 1, 2] rfl) hw h
  · have h := ift hc_13 h
    refine lv_aload_n (pc := 9) hx hb dX10_besideWord_9 rfl (lv_at hl 1 rfl) ?_
    refine lv_iload_n (pc := 10) hx hb dX10_besideWord_10 rfl (lv_at hl 2 rfl) ?_
    refine lv_bipush (pc := 11) (v := 98) hx hb dX10_besideWord_11 (by decide) ?_
    refine lv_idiv (pc := 13) hx hb dX10_besideWord_13 (by decide) ?_
    obtain ⟨v_channel_14, hq_15, h⟩ := ob1_at h
    refine x_callV (pc := 14) (rest := []) (stk := []) (wX10_besideWord cB cI cZ av a_this v_thrown v_size v_begins v_entries v_length v_pressed v_streamFrames v_zeros v_level v_sum v_tail v_isPlayed v_found v_strange v_innerFails v_outerFails v_mostMarks v_unsure v_may v_mocks v_sumThen v_channel_14 v_entryControl v_entryIndex v_entrySection v_entryTrack v_words) C hw (ct_X10_makeChannel l D cB cI cZ tw av a_this v_thrown v_size v_begins v_entries v_length v_pressed v_streamFrames v_zeros v_level v_sum v_tail v_isPlayed v_found v_strange v_innerFails v_outerFails v_mostMarks v_unsure v_may v_mocks v_sumThen v_channel v_entryControl v_entryIndex v_entrySection v_entryTrack (x1 / (98 : Int32)) v_channel_14 hq_15) cal_X10_makeChannel tw_1282 (q0 := 0) rfl rfl [0, 1, 2, 3, 4, 5] [6] 7 [((av 1), .inl (cI, 256, .inl v_words))] rfl rfl rfl rfl rfl rfl rfl rfl rfl rfl rfl (Nat.le_of_ble_eq_true rfl) hl.1 ⟨Nat.le_of_ble_eq_true rfl, Nat.le_of_ble_eq_true rfl⟩ ⟨Nat.zero_le _, Nat.zero_le _⟩ dX10_besideWord_14 (fun H locs hw => ?_)
    exact J17_3 v_channel_14 ls _ _ (lv_sub hl [0, 1, 2] rfl) hw h
def wX10_press (cB cI cZ : ClassId) (av : Nat → Nat) (a_this : Nat) (v_thrown : Int32) (v_size : Int32) (v_begins : Int32) (v_entries : Int32) (v_length : Int32) (v_pressed : Int32) (v_streamFrames : Int32) (v_zeros : Int32) (v_level : Int32) (v_sum : Int32) (v_tail : Int32) (v_isPlayed : Int32) (v_found : Int32) (v_strange : Int32) (v_innerFails : Int32) (v_outerFails : Int32) (v_mostMarks : Int32) (v_unsure : Int32) (v_may : Int32) (v_mocks : Int32) (v_sumThen : Int32) (v_bits : Nat → Int32) (v_channel : Nat → Int32) (v_entryControl : Nat → Int32) (v_entryIndex : Nat → Int32) (v_entrySection : Nat → Int32) (v_entryTrack : Nat → Int32) (v_inners : Nat → Int32) (v_logs : Nat → Int32) (v_marked : Nat → Int32) (v_outers : Nat → Int32) (v_places : Nat → Int32) (v_powers : Nat → Int32) (v_rows : Nat → Int32) (v_stream : Nat → Int32) (v_syndromes : Nat → Int32) (v_values : Nat → Int32) (v_word : Nat → Int32) (v_words : Nat → Int32) : va_W := [oX10 a_this av v_thrown v_size v_begins v_entries v_length v_pressed v_streamFrames v_zeros v_level v_sum v_tail v_isPlayed v_found v_strange v_innerFails v_outerFails v_mostMarks v_unsure v_may v_mocks v_sumThen, ((av 13), .inl (cB, 360000, .inl v_bits)), ((av 21), .inl (cI, 96, .inl v_channel)), ((av 10), .inl (cI, 20, .inl v_entryControl)), ((av 12), .inl (cI, 20, .inl v_entryIndex)), ((av 9), .inl (cI, 20, .inl v_entrySection)), ((av 11), .inl (cI, 20, .inl v_entryTrack)), ((av 28), .inl (cI, 20480, .inl v_inners)), ((av 4), .inl (cI, 256, .inl v_logs)), ((av 23), .inl (cZ, 32, .inl v_marked)), ((av 31), .inl (cI, 17920, .inl v_outers)), ((av 25), .inl (cI, 4, .inl v_places)), ((av 3), .inl (cI, 512, .inl v_powers)), ((av 27), .inl (cI, 20, .inl v_rows)), ((av 5), .inl (cB, 11712, .inl v_stream)), ((av 24), .inl (cI, 4, .inl v_syndromes)), ((av 26), .inl (cI, 4, .inl v_values)), ((av 22), .inl (cI, 32, .inl v_word)), ((av 1), .inl (cI, 256, .inl v_words))]
def fX10_press_L147 (j176_80 : Int32 → Int32 → Int32 → Int32 → Int32 → Int32 → Int32 → Int32 → (Nat → Int32) → Option (Int32 × Int32 × Int32 × Int32 × Int32 × Int32 × Int32 × Int32 × Int32 × Int32 × Int32 × Int32 × Int32 × (Nat → Int32) × (Nat → Int32) × (Nat → Int32) × (Nat → Int32) × (Nat → Int32) × (Nat → Int32) × (Nat → Int32) × (Nat → Int32) × (Nat → Int32) × (Nat → Int32))) (v_inners_12 : Nat → Int32) (x1_45 : Int32) (v_words : Nat → Int32) : Nat → Int32 → Int32 → Int32 → Int32 → Int32 → Int32 → Int32 → Int32 → Int32 → (Nat → Int32) → Option (Int32 × Int32 × Int32 × Int32 × Int32 × Int32 × Int32 × Int32 × Int32 × Int32 × Int32 × Int32 × Int32 × (Nat → Int32) × (Nat → Int32) × (Nat → Int32) × (Nat → Int32) × (Nat → Int32) × (Nat → Int32) × (Nat → Int32) × (Nat → Int32) × (Nat → Int32) × (Nat → Int32))
  | 0, _, _, _, _, _, _, _, _, _, _ => none
  | F147_113 + 1, x2_103, v_length_104, v_zeros_105, v_level_106, v_sum_107, v_tail_108, v_may_109, v_mocks_110, v_sumThen_111, v_bits_112 => if (32 : Int32) ≤ x2_103 then j176_80 v_length_104 v_zeros_105 v_level_106 v_sum_107 v_tail_108 v_may_109 v_mocks_110 v_sumThen_111 v_bits_112 else ob1 (fX10_discByte v_inners_12 x1_45 x2_103) fun r_115 => og (ixb r_115 256) (ob9 (fX10_layWord v_length_104 v_level_106 v_may_109 v_mocks_110 v_sum_107 v_sumThen_111 v_tail_108 v_zeros_105 v_bits_112 (v_words (Int32.toNatClampNeg r_115)) 14) fun v_length_118 v_level_119 v_may_120 v_mocks_121 v_sum_122 v_sumThen_123 v_tail_124 v_zeros_125 v_bits_126 => nm (x2_103 + 1 : Int32) fun x2_128 => fX10_press_L147 j176_80 v_inners_12 x1_45 v_words F147_113 x2_128 v_length_118 v_zeros_125 v_level_119 v_sum_122 v_tail_124 v_may_120 v_mocks_121 v_sumThen_123 v_bits_126)
def fX10_press_L126 (v_pressed_3 : Int32) (j200_37 : Int32 → Int32 → Int32 → Int32 → Int32 → Int32 → Int32 → Int32 → (Nat → Int32) → (Nat → Int32) → Option (Int32 × Int32 × Int32 × Int32 × Int32 × Int32 × Int32 × Int32 × Int32 × Int32 × Int32 × Int32 × Int32 × (Nat → Int32) × (Nat → Int32) × (Nat → Int32) × (Nat → Int32) × (Nat → Int32) × (Nat → Int32) × (Nat → Int32) × (Nat → Int32) × (Nat → Int32) × (Nat → Int32))) (v_begins : Int32) (v_entries : Int32) (v_entryControl : Nat → Int32) (v_entryIndex : Nat → Int32) (v_entrySection : Nat → Int32) (v_entryTrack : Nat → Int32) (v_words : Nat → Int32) (v_inners_12 : Nat → Int32) : Nat → Int32 → Int32 → Int32 → Int32 → Int32 → Int32 → Int32 → Int32 → Int32 → (Nat → Int32) → (Nat → Int32) → Option (Int32 × Int32 × Int32 × Int32 × Int32 × Int32 × Int32 × Int32 × Int32 × Int32 × Int32 × Int32 × Int32 × (Nat → Int32) × (Nat → Int32) × (Nat → Int32) × (Nat → Int32) × (Nat → Int32) × (Nat → Int32) × (Nat → Int32) × (Nat → Int32) × (Nat → Int32) × (Nat → Int32))
  | 0, _, _, _, _, _, _, _, _, _, _, _ => none
  | F126_56 + 1, x1_45, v_length_46, v_zeros_47, v_level_48, v_sum_49, v_tail_50, v_may_51, v_mocks_52, v_sumThen_53, v_bits_54, v_channel_55 => if v_pressed_3 ≤ x1_45 then j200_37 v_length_46 v_zeros_47 v_level_48 v_sum_49 v_tail_50 v_may_51 v_mocks_52 v_sumThen_53 v_bits_54 v_channel_55 else ob2 (fX10_besideWord v_begins v_entries v_pressed_3 v_channel_55 v_entryControl v_entryIndex v_entrySection v_entryTrack v_words x1_45) fun r_58 v_channel_59 => ob9 (fX10_layWord v_length_46 v_level_48 v_may_51 v_mocks_52 v_sum_49 v_sumThen_53 v_tail_50 v_zeros_47 v_bits_54 r_58 14) fun v_length_61 v_level_62 v_may_63 v_mocks_64 v_sum_65 v_sumThen_66 v_tail_67 v_zeros_68 v_bits_69 => jk (fun (v_length_71 : Int32) (v_zeros_72 : Int32) (v_level_73 : Int32) (v_sum_74 : Int32) (v_tail_75 : Int32) (v_may_76 : Int32) (v_mocks_77 : Int32) (v_sumThen_78 : Int32) (v_bits_79 : Nat → Int32) => jk (fun (v_length_81 : Int32) (v_zeros_82 : Int32) (v_level_83 : Int32) (v_sum_84 : Int32) (v_tail_85 : Int32) (v_may_86 : Int32) (v_mocks_87 : Int32) (v_sumThen_88 : Int32) (v_bits_89 : Nat → Int32) => nm (x1_45 + 1 : Int32) fun x1_91 => fX10_press_L126 v_pressed_3 j200_37 v_begins v_entries v_entryControl v_entryIndex v_entrySection v_entryTrack v_words v_inners_12 F126_56 x1_91 v_length_81 v_zeros_82 v_level_83 v_sum_84 v_tail_85 v_may_86 v_mocks_87 v_sumThen_88 v_bits_89 v_channel_59) fun j194_90 => if v_pressed_3 ≤ (x1_45 + (1 : Int32)) then j194_90 v_length_71 v_zeros_72 v_level_73 v_sum_74 v_tail_75 v_may_76 v_mocks_77 v_sumThen_78 v_bits_79 else ob9 (fX10_layWord v_length_71 v_level_73 v_may_76 v_mocks_77 v_sum_74 v_sumThen_78 v_tail_75 v_zeros_72 v_bits_79 8392706 24) fun v_length_93 v_level_94 v_may_95 v_mocks_96 v_sum_97 v_sumThen_98 v_tail_99 v_zeros_100 v_bits_101 => j194_90 v_length_93 v_zeros_100 v_level_94 v_sum_97 v_tail_99 v_may_95 v_mocks_96 v_sumThen_98 v_bits_101) fun j176_80 => fX10_press_L147 j176_80 v_inners_12 x1_45 v_words FU 0 v_length_61 v_zeros_68 v_level_62 v_sum_65 v_tail_67 v_may_63 v_mocks_64 v_sumThen_66 v_bits_69
def fX10_press_L77 (v_pressed_3 : Int32) (j96_19 : (Nat → Int32) → (Nat → Int32) → (Nat → Int32) → (Nat → Int32) → (Nat → Int32) → (Nat → Int32) → (Nat → Int32) → Option (Int32 × Int32 × Int32 × Int32 × Int32 × Int32 × Int32 × Int32 × Int32 × Int32 × Int32 × Int32 × Int32 × (Nat → Int32) × (Nat → Int32) × (Nat → Int32) × (Nat → Int32) × (Nat → Int32) × (Nat → Int32) × (Nat → Int32) × (Nat → Int32) × (Nat → Int32) × (Nat → Int32))) (v_logs : Nat → Int32) (v_outers_5 : Nat → Int32) (v_powers : Nat → Int32) : Nat → Int32 → (Nat → Int32) → (Nat → Int32) → (Nat → Int32) → (Nat → Int32) → (Nat → Int32) → (Nat → Int32) → (Nat → Int32) → Option (Int32 × Int32 × Int32 × Int32 × Int32 × Int32 × Int32 × Int32 × Int32 × Int32 × Int32 × Int32 × Int32 × (Nat → Int32) × (Nat → Int32) × (Nat → Int32) × (Nat → Int32) × (Nat → Int32) × (Nat → Int32) × (Nat → Int32) × (Nat → Int32) × (Nat → Int32) × (Nat → Int32))
  | 0, _, _, _, _, _, _, _, _ => none
  | F77_137 + 1, x1_129, v_inners_130, v_marked_131, v_places_132, v_rows_133, v_syndromes_134, v_values_135, v_word_136 => if v_pressed_3 ≤ x1_129 then j96_19 v_inners_130 v_marked_131 v_places_132 v_rows_133 v_syndromes_134 v_values_135 v_word_136 else ob7 (fX10_makeInner v_inners_130 v_logs v_marked_131 v_outers_5 v_places_132 v_powers v_rows_133 v_syndromes_134 v_values_135 v_word_136 x1_129) fun v_inners_139 v_marked_140 v_places_141 v_rows_142 v_syndromes_143 v_values_144 v_word_145 => nm (x1_129 + 1 : Int32) fun x1_147 => fX10_press_L77 v_pressed_3 j96_19 v_logs v_outers_5 v_powers F77_137 x1_147 v_inners_139 v_marked_140 v_places_141 v_rows_142 v_syndromes_143 v_values_144 v_word_145
def fX10_press_L56 (v_pressed_3 : Int32) (j75_11 : (Nat → Int32) → (Nat → Int32) → (Nat → Int32) → (Nat → Int32) → (Nat → Int32) → (Nat → Int32) → (Nat → Int32) → Option (Int32 × Int32 × Int32 × Int32 × Int32 × Int32 × Int32 × Int32 × Int32 × Int32 × Int32 × Int32 × Int32 × (Nat → Int32) × (Nat → Int32) × (Nat → Int32) × (Nat → Int32) × (Nat → Int32) × (Nat → Int32) × (Nat → Int32) × (Nat → Int32) × (Nat → Int32) × (Nat → Int32))) (v_size : Int32) (v_streamFrames_2 : Int32) (v_logs : Nat → Int32) (v_powers : Nat → Int32) (v_stream : Nat → Int32) : Nat → Int32 → (Nat → Int32) → (Nat → Int32) → (Nat → Int32) → (Nat → Int32) → (Nat → Int32) → (Nat → Int32) → (Nat → Int32) → Option (Int32 × Int32 × Int32 × Int32 × Int32 × Int32 × Int32 × Int32 × Int32 × Int32 × Int32 × Int32 × Int32 × (Nat → Int32) × (Nat → Int32) × (Nat → Int32) × (Nat → Int32) × (Nat → Int32) × (Nat → Int32) × (Nat → Int32) × (Nat → Int32) × (Nat → Int32) × (Nat → Int32))
  | 0, _, _, _, _, _, _, _, _ => none
  | F56_156 + 1, x1_148, v_marked_149, v_outers_150, v_places_151, v_rows_152, v_syndromes_153, v_values_154, v_word_155 => if v_pressed_3 ≤ x1_148 then j75_11 v_marked_149 v_outers_150 v_places_151 v_rows_152 v_syndromes_153 v_values_154 v_word_155 else ob7 (fX10_makeOuter v_size v_streamFrames_2 v_logs v_marked_149 v_outers_150 v_places_151 v_powers v_rows_152 v_stream v_syndromes_153 v_values_154 v_word_155 x1_148) fun v_marked_158 v_outers_159 v_places_160 v_rows_161 v_syndromes_162 v_values_163 v_word_164 => nm (x1_148 + 1 : Int32) fun x1_166 => fX10_press_L56 v_pressed_3 j75_11 v_size v_streamFrames_2 v_logs v_powers v_stream F56_156 x1_166 v_marked_158 v_outers_159 v_places_160 v_rows_161 v_syndromes_162 v_values_163 v_word_164
def fX10_press (v_begins : Int32) (v_entries : Int32) (v_isPlayed : Int32) (v_length : Int32) (v_level : Int32) (v_may : Int32) (v_mocks : Int32) (v_pressed : Int32) (v_size : Int32) (v_streamFrames : Int32) (v_sum : Int32) (v_sumThen : Int32) (v_tail : Int32) (v_thrown : Int32) (v_zeros : Int32) (v_bits : Nat → Int32) (v_channel : Nat → Int32) (v_entryControl : Nat → Int32) (v_entryIndex : Nat → Int32) (v_entrySection : Nat → Int32) (v_entryTrack : Nat → Int32) (v_inners : Nat → Int32) (v_logs : Nat → Int32) (v_marked : Nat → Int32) (v_outers : Nat → Int32) (v_places : Nat → Int32) (v_powers : Nat → Int32) (v_rows : Nat → Int32) (v_stream : Nat → Int32) (v_syndromes : Nat → Int32) (v_values : Nat → Int32) (v_word : Nat → Int32) (v_words : Nat → Int32) : Option (Int32 × Int32 × Int32 × Int32 × Int32 × Int32 × Int32 × Int32 × Int32 × Int32 × Int32 × Int32 × Int32 × (Nat → Int32) × (Nat → Int32) × (Nat → Int32) × (Nat → Int32) × (Nat → Int32) × (Nat → Int32) × (Nat → Int32) × (Nat → Int32) × (Nat → Int32) × (Nat → Int32)) := if v_size = 0 then some (0, 0, 0, v_level, v_may, v_mocks, 0, v_streamFrames, v_sum, v_sumThen, v_tail, 0, v_zeros, v_bits, v_channel, v_inners, v_marked, v_outers, v_places, v_rows, v_syndromes, v_values, v_word) else nm (((v_size + (23 : Int32)) / (24 : Int32)) : Int32) fun v_streamFrames_2 => nm ((v_streamFrames_2 + (111 : Int32)) : Int32) fun v_pressed_3 => jk (fun (v_marked_4 : Nat → Int32) (v_outers_5 : Nat → Int32) (v_places_6 : Nat → Int32) (v_rows_7 : Nat → Int32) (v_syndromes_8 : Nat → Int32) (v_values_9 : Nat → Int32) (v_word_10 : Nat → Int32) => jk (fun (v_inners_12 : Nat → Int32) (v_marked_13 : Nat → Int32) (v_places_14 : Nat → Int32) (v_rows_15 : Nat → Int32) (v_syndromes_16 : Nat → Int32) (v_values_17 : Nat → Int32) (v_word_18 : Nat → Int32) => ob6 (fX10_layBits 0 1 0 0 0 v_bits 8392706 24) fun v_length_20 v_level_21 v_sum_22 v_tail_23 v_zeros_24 v_bits_25 => jk (fun (v_length_27 : Int32) (v_zeros_28 : Int32) (v_level_29 : Int32) (v_sum_30 : Int32) (v_tail_31 : Int32) (v_may_32 : Int32) (v_mocks_33 : Int32) (v_sumThen_34 : Int32) (v_bits_35 : Nat → Int32) (v_channel_36 : Nat → Int32) => ob6 (fX10_layBits v_length_27 v_level_29 v_sum_30 v_tail_31 v_zeros_28 v_bits_35 0 3) fun v_length_38 v_level_39 v_sum_40 v_tail_41 v_zeros_42 v_bits_43 => some (v_pressed_3, 0, v_length_38, v_level_39, v_may_32, v_mocks_33, v_pressed_3, v_streamFrames_2, v_sum_40, v_sumThen_34, v_tail_41, 0, v_zeros_42, v_bits_43, v_channel_36, v_inners_12, v_marked_13, v_outers_5, v_places_14, v_rows_15, v_syndromes_16, v_values_17, v_word_18)) fun j200_37 => fX10_press_L126 v_pressed_3 j200_37 v_begins v_entries v_entryControl v_entryIndex v_entrySection v_entryTrack v_words v_inners_12 FU 0 v_length_20 v_zeros_24 v_level_21 v_sum_22 v_tail_23 v_may v_mocks v_sumThen v_bits_25 v_channel) fun j96_19 => fX10_press_L77 v_pressed_3 j96_19 v_logs v_outers_5 v_powers FU 0 v_inners v_marked_4 v_places_6 v_rows_7 v_syndromes_8 v_values_9 v_word_10) fun j75_11 => fX10_press_L56 v_pressed_3 j75_11 v_size v_streamFrames_2 v_logs v_powers v_stream FU 0 v_marked v_outers v_places v_rows v_syndromes v_values v_word
set_option maxHeartbeats 4000000 in
set_option maxRecDepth 100000 in
theorem ct_X10_press (l : Launch) (D : va_G) (cB cI cZ : ClassId) (tw : Nat) (av : Nat → Nat) (a_this : Nat) (v_thrown : Int32) (v_size : Int32) (v_begins : Int32) (v_entries : Int32) (v_length : Int32) (v_pressed : Int32) (v_streamFrames : Int32) (v_zeros : Int32) (v_level : Int32) (v_sum : Int32) (v_tail : Int32) (v_isPlayed : Int32) (v_found : Int32) (v_strange : Int32) (v_innerFails : Int32) (v_outerFails : Int32) (v_mostMarks : Int32) (v_unsure : Int32) (v_may : Int32) (v_mocks : Int32) (v_sumThen : Int32) (v_bits : Nat → Int32) (v_channel : Nat → Int32) (v_entryControl : Nat → Int32) (v_entryIndex : Nat → Int32) (v_entrySection : Nat → Int32) (v_entryTrack : Nat → Int32) (v_inners : Nat → Int32) (v_logs : Nat → Int32) (v_marked : Nat → Int32) (v_outers : Nat → Int32) (v_places : Nat → Int32) (v_powers : Nat → Int32) (v_rows : Nat → Int32) (v_stream : Nat → Int32) (v_syndromes : Nat → Int32) (v_values : Nat → Int32) (v_word : Nat → Int32) (v_words : Nat → Int32) (res : Int32 × Int32 × Int32 × Int32 × Int32 × Int32 × Int32 × Int32 × Int32 × Int32 × Int32 × Int32 × Int32 × (Nat → Int32) × (Nat → Int32) × (Nat → Int32) × (Nat → Int32) × (Nat → Int32) × (Nat → Int32) × (Nat → Int32) × (Nat → Int32) × (Nat → Int32) × (Nat → Int32)) (h : fX10_press v_begins v_entries v_isPlayed v_length v_level v_may v_mocks v_pressed v_size v_streamFrames v_sum v_sumThen v_tail v_thrown v_zeros v_bits v_channel v_entryControl v_entryIndex v_entrySection v_entryTrack v_inners v_logs v_marked v_outers v_places v_powers v_rows v_stream v_syndromes v_values v_word v_words = some res) : Ctr l yX10_press cX10_press 3 (some .int) (rmK 5 124) D (tyL cB cI cZ) tw [.ref a_this] (wX10_press cB cI cZ av a_this v_thrown v_size v_begins v_entries v_length v_pressed v_streamFrames v_zeros v_level v_sum v_tail v_isPlayed v_found v_strange v_innerFails v_outerFails v_mostMarks v_unsure v_may v_mocks v_sumThen v_bits v_channel v_entryControl v_entryIndex v_entrySection v_entryTrack v_inners v_logs v_marked v_outers v_places v_powers v_rows v_stream v_syndromes v_values v_word v_words) (fun res : Int32 × Int32 × Int32 × Int32 × Int32 × Int32 × Int32 × Int32 × Int32 × Int32 × Int32 × Int32 × Int32 × (Nat → Int32) × (Nat → Int32) × (Nat → Int32) × (Nat → Int32) × (Nat → Int32) × (Nat → Int32) × (Nat → Int32) × (Nat → Int32) × (Nat → Int32) × (Nat → Int32) => some (.int res.1)) (fun res : Int32 × Int32 × Int32 × Int32 × Int32 × Int32 × Int32 × Int32 × Int32 × Int32 × Int32 × Int32 × Int32 × (Nat → Int32) × (Nat → Int32) × (Nat → Int32) × (Nat → Int32) × (Nat → Int32) × (Nat → Int32) × (Nat → Int32) × (Nat → Int32) × (Nat → Int32) × (Nat → Int32) => (wX10_press cB cI cZ av a_this (res.2.2.2.2.2.2.2.2.2.2.2.1) v_size v_begins v_entries (res.2.2.1) (res.2.2.2.2.2.2.1) (res.2.2.2.2.2.2.2.1) (res.2.2.2.2.2.2.2.2.2.2.2.2.1) (res.2.2.2.1) (res.2.2.2.2.2.2.2.2.1) (res.2.2.2.2.2.2.2.2.2.2.1) (res.2.1) v_found v_strange v_innerFails v_outerFails v_mostMarks v_unsure (res.2.2.2.2.1) (res.2.2.2.2.2.1) (res.2.2.2.2.2.2.2.2.2.1) (res.2.2.2.2.2.2.2.2.2.2.2.2.2.1) (res.2.2.2.2.2.2.2.2.2.2.2.2.2.2.1) v_entryControl v_entryIndex v_entrySection v_entryTrack (res.2.2.2.2.2.2.2.2.2.2.2.2.2.2.2.1) v_logs (res.2.2.2.2.2.2.2.2.2.2.2.2.2.2.2.2.1) (res.2.2.2.2.2.2.2.2.2.2.2.2.2.2.2.2.2.1) (res.2.2.2.2.2.2.2.2.2.2.2.2.2.2.2.2.2.2.1) v_powers (res.2.2.2.2.2.2.2.2.2.2.2.2.2.2.2.2.2.2.2.1) v_stream (res.2.2.2.2.2.2.2.2.2.2.2.2.2.2.2.2.2.2.2.2.1) (res.2.2.2.2.2.2.2.2.2.2.2.2.2.2.2.2.2.2.2.2.2.1) (res.2.2.2.2.2.2.2.2.2.2.2.2.2.2.2.2.2.2.2.2.2.2) v_words)) res := by
  refine ctr_of RX10 (by decide) rfl (Nat.le_of_ble_eq_true rfl) ?_
  intro p e s m below meth c A C hw ls hl
  have hx := C.1
  have hb := C.2.1
  have hl : lv_has ls 3 [(0, .ref a_this)] := hl
  unfold fX10_press at h
  refine lv_aload_n (pc := 0) hx hb dX10_press_0 rfl (lv_at hl 0 rfl) ?_
  refine lv_iconst (pc := 1) (v := 0) hx hb dX10_press_1 (by decide) ?_
  refine pf_X10_100 (pc := 2) (wX10_press cB cI cZ av a_this 0 v_size v_begins v_entries v_length v_pressed v_streamFrames v_zeros v_level v_sum v_tail v_isPlayed v_found v_strange v_innerFails v_outerFails v_mostMarks v_unsure v_may v_mocks v_sumThen v_bits v_channel v_entryControl v_entryIndex v_entrySection v_entryTrack v_inners v_logs v_marked v_outers v_places v_powers v_rows v_stream v_syndromes v_values v_word v_words) C hw 0 rfl rfl rfl rfl (Nat.le_of_ble_eq_true rfl) dX10_press_2 (fun H locs hw => ?_)
  refine lv_aload_n (pc := 5) hx hb dX10_press_5 rfl (lv_at hl 0 rfl) ?_
  refine lv_iconst (pc := 6) (v := 0) hx hb dX10_press_6 (by decide) ?_
  refine pf_X10_250 (pc := 7) (wX10_press cB cI cZ av a_this 0 v_size v_begins v_entries v_length v_pressed v_streamFrames v_zeros v_level v_sum v_tail 0 v_found v_strange v_innerFails v_outerFails v_mostMarks v_unsure v_may v_mocks v_sumThen v_bits v_channel v_entryControl v_entryIndex v_entrySection v_entryTrack v_inners v_logs v_marked v_outers v_places v_powers v_rows v_stream v_syndromes v_values v_word v_words) C hw 0 rfl rfl rfl rfl (Nat.le_of_ble_eq_true rfl) dX10_press_7 (fun H locs hw => ?_)
  refine lv_aload_n (pc := 10) hx hb dX10_press_10 rfl (lv_at hl 0 rfl) ?_
  refine lv_iconst (pc := 11) (v := 0) hx hb dX10_press_11 (by decide) ?_
  refine pf_X10_185 (pc := 12) (wX10_press cB cI cZ av a_this 0 v_size v_begins v_entries 0 v_pressed v_streamFrames v_zeros v_level v_sum v_tail 0 v_found v_strange v_innerFails v_outerFails v_mostMarks v_unsure v_may v_mocks v_sumThen v_bits v_channel v_entryControl v_entryIndex v_entrySection v_entryTrack v_inners v_logs v_marked v_outers v_places v_powers v_rows v_stream v_syndromes v_values v_word v_words) C hw 0 rfl rfl rfl rfl (Nat.le_of_ble_eq_true rfl) dX10_press_12 (fun H locs hw => ?_)
  refine lv_aload_n (pc := 15) hx hb dX10_press_15 rfl (lv_at hl 0 rfl) ?_
  refine lv_iconst (pc := 16) (v := 0) hx hb dX10_press_16 (by decide) ?_
  refine pf_X10_231 (pc := 17) (wX10_press cB cI cZ av a_this 0 v_size v_begins v_entries 0 0 v_streamFrames v_zeros v_level v_sum v_tail 0 v_found v_strange v_innerFails v_outerFails v_mostMarks v_unsure v_may v_mocks v_sumThen v_bits v_channel v_entryControl v_entryIndex v_entrySection v_entryTrack v_inners v_logs v_marked v_outers v_places v_powers v_rows v_stream v_syndromes v_values v_word v_words) C hw 0 rfl rfl rfl rfl (Nat.le_of_ble_eq_true rfl) dX10_press_17 (fun H locs hw => ?_)
  refine lv_aload_n (pc := 20) hx hb dX10_press_20 rfl (lv_at hl 0 rfl) ?_
  refine gf_X10_148 (pc := 21) C hw 0 rfl rfl dX10_press_21 ?_
  refine lv_if_ne (pc := 24) (tgt := 29) hx hb dX10_press_24 (by decide) (fun hc_1 => ?_) (fun hc_1 => ?_)
  · have h := iff' hc_1 h
    refine lv_aload_n (pc := 29) hx hb dX10_press_29 rfl (lv_at hl 0 rfl) ?_
    refine lv_aload_n (pc := 30) hx hb dX10_press_30 rfl (lv_at hl 0 rfl) ?_
    refine gf_X10_148 (pc := 31) C hw 0 rfl rfl dX10_press_31 ?_
    refine lv_bipush (pc := 34) (v := 23) hx hb dX10_press_34 (by decide) ?_
    refine lv_iadd (pc := 36) hx hb dX10_press_36 ?_
    refine lv_bipush (pc := 37) (v := 24) hx hb dX10_press_37 (by decide) ?_
    refine lv_idiv (pc := 39) hx hb dX10_press_39 (by decide) ?_
    refine lv_topi (pc := 40) (fun v_streamFrames_2 ev_streamFrames_2 => ?_)
    have h := nm_at ev_streamFrames_2 h
    refine pf_X10_169 (pc := 40) (wX10_press cB cI cZ av a_this 0 v_size v_begins v_entries 0 0 v_streamFrames_2 v_zeros v_level v_sum v_tail 0 v_found v_strange v_innerFails v_outerFails v_mostMarks v_unsure v_may v_mocks v_sumThen v_bits v_channel v_entryControl v_entryIndex v_entrySection v_entryTrack v_inners v_logs v_marked v_outers v_places v_powers v_rows v_stream v_syndromes v_values v_word v_words) C hw 0 rfl rfl rfl rfl (Nat.le_of_ble_eq_true rfl) dX10_press_40 (fun H locs hw => ?_)
    refine lv_aload_n (pc := 43) hx hb dX10_press_43 rfl (lv_at hl 0 rfl) ?_
    refine lv_aload_n (pc := 44) hx hb dX10_press_44 rfl (lv_at hl 0 rfl) ?_
    refine gf_X10_169 (pc := 45) C hw 0 rfl rfl dX10_press_45 ?_
    refine lv_bipush (pc := 48) (v := 111) hx hb dX10_press_48 (by decide) ?_
    refine lv_iadd (pc := 50) hx hb dX10_press_50 ?_
    refine lv_topi (pc := 51) (fun v_pressed_3 ev_pressed_3 => ?_)
    have h := nm_at ev_pressed_3 h
    refine pf_X10_231 (pc := 51) (wX10_press cB cI cZ av a_this 0 v_size v_begins v_entries 0 v_pressed_3 v_streamFrames_2 v_zeros v_level v_sum v_tail 0 v_found v_strange v_innerFails v_outerFails v_mostMarks v_unsure v_may v_mocks v_sumThen v_bits v_channel v_entryControl v_entryIndex v_entrySection v_entryTrack v_inners v_logs v_marked v_outers v_places v_powers v_rows v_stream v_syndromes v_values v_word v_words) C hw 0 rfl rfl rfl rfl (Nat.le_of_ble_eq_true rfl) dX10_press_51 (fun H locs hw => ?_)
    refine lv_iconst (pc := 54) (v := 0) hx hb dX10_press_54 (by decide) ?_
    refine lv_istore_n (pc := 55) (lv' := [(1, .int 0), (0, .ref a_this)]) hx hb dX10_press_55 rfl hl (by decide) rfl (fun ls hl => ?_)
    obtain ⟨j75_11, ej75_11, h⟩ := jk_at h
    have J75_11 : ∀ (v_marked_4 : Nat → Int32) (v_outers_5 : Nat → Int32) (v_places_6 : Nat → Int32) (v_rows_7 : Nat → Int32) (v_syndromes_8 : Nat → Int32) (v_values_9 : Nat → Int32) (v_word_10 : Nat → Int32) (ls : Array Slot) (H : Heap) (locs : List Loc), lv_has ls 3 [(0, .ref a_this)] → Wd D A s (wX10_press cB cI cZ av a_this 0 v_size v_begins v_entries 0 v_pressed_3 v_streamFrames_2 v_zeros v_level v_sum v_tail 0 v_found v_strange v_innerFails v_outerFails v_mostMarks v_unsure v_may v_mocks v_sumThen v_bits v_channel v_entryControl v_entryIndex v_entrySection v_entryTrack v_inners v_logs v_marked_4 v_outers_5 v_places_6 v_powers v_rows_7 v_stream v_syndromes_8 v_values_9 v_word_10 v_words) H locs → j75_11 v_marked_4 v_outers_5 v_places_6 v_rows_7 v_syndromes_8 v_values_9 v_word_10 = some res → W p l e (rmK 5 124) s m ([.ref a_this] : List Value).toArray below meth c H locs 0 0 (MQ below (QG D (tyL cB cI cZ) A (fun res : Int32 × Int32 × Int32 × Int32 × Int32 × Int32 × Int32 × Int32 × Int32 × Int32 × Int32 × Int32 × Int32 × (Nat → Int32) × (Nat → Int32) × (Nat → Int32) × (Nat → Int32) × (Nat → Int32) × (Nat → Int32) × (Nat → Int32) × (Nat → Int32) × (Nat → Int32) × (Nat → Int32) => some (.int res.1)) (fun res : Int32 × Int32 × Int32 × Int32 × Int32 × Int32 × Int32 × Int32 × Int32 × Int32 × Int32 × Int32 × Int32 × (Nat → Int32) × (Nat → Int32) × (Nat → Int32) × (Nat → Int32) × (Nat → Int32) × (Nat → Int32) × (Nat → Int32) × (Nat → Int32) × (Nat → Int32) × (Nat → Int32) => (wX10_press cB cI cZ av a_this (res.2.2.2.2.2.2.2.2.2.2.2.1) v_size v_begins v_entries (res.2.2.1) (res.2.2.2.2.2.2.1) (res.2.2.2.2.2.2.2.1) (res.2.2.2.2.2.2.2.2.2.2.2.2.1) (res.2.2.2.1) (res.2.2.2.2.2.2.2.2.1) (res.2.2.2.2.2.2.2.2.2.2.1) (res.2.1) v_found v_strange v_innerFails v_outerFails v_mostMarks v_unsure (res.2.2.2.2.1) (res.2.2.2.2.2.1) (res.2.2.2.2.2.2.2.2.2.1) (res.2.2.2.2.2.2.2.2.2.2.2.2.2.1) (res.2.2.2.2.2.2.2.2.2.2.2.2.2.2.1) v_entryControl v_entryIndex v_entrySection v_entryTrack (res.2.2.2.2.2.2.2.2.2.2.2.2.2.2.2.1) v_logs (res.2.2.2.2.2.2.2.2.2.2.2.2.2.2.2.2.1) (res.2.2.2.2.2.2.2.2.2.2.2.2.2.2.2.2.2.1) (res.2.2.2.2.2.2.2.2.2.2.2.2.2.2.2.2.2.2.1) v_powers (res.2.2.2.2.2.2.2.2.2.2.2.2.2.2.2.2.2.2.2.1) v_stream (res.2.2.2.2.2.2.2.2.2.2.2.2.2.2.2.2.2.2.2.2.1) (res.2.2.2.2.2.2.2.2.2.2.2.2.2.2.2.2.2.2.2.2.2.1) (res.2.2.2.2.2.2.2.2.2.2.2.2.2.2.2.2.2.2.2.2.2.2) v_words)) res) ([.ref a_this] : List Value).toArray s 0 0 A) (F0 m 75 ls []) := by
      intro v_marked_4 v_outers_5 v_places_6 v_rows_7 v_syndromes_8 v_values_9 v_word_10 ls H locs hl hw h
      have h := k7_at ej75_11 h
      refine lv_iconst (pc := 75) (v := 0) hx hb dX10_press_75 (by decide) ?_
      refine lv_istore_n (pc := 76) (lv' := [(1, .int 0), (0, .ref a_this)]) hx hb dX10_press_76 rfl hl (by decide) rfl (fun ls hl => ?_)
      obtain ⟨j96_19, ej96_19, h⟩ := jk_at h
      have J96_19 : ∀ (v_inners_12 : Nat → Int32) (v_marked_13 : Nat → Int32) (v_places_14 : Nat → Int32) (v_rows_15 : Nat → Int32) (v_syndromes_16 : Nat → Int32) (v_values_17 : Nat → Int32) (v_word_18 : Nat → Int32) (ls : Array Slot) (H : Heap) (locs : List Loc), lv_has ls 3 [(0, .ref a_this)] → Wd D A s (wX10_press cB cI cZ av a_this 0 v_size v_begins v_entries 0 v_pressed_3 v_streamFrames_2 v_zeros v_level v_sum v_tail 0 v_found v_strange v_innerFails v_outerFails v_mostMarks v_unsure v_may v_mocks v_sumThen v_bits v_channel v_entryControl v_entryIndex v_entrySection v_entryTrack v_inners_12 v_logs v_marked_13 v_outers_5 v_places_14 v_powers v_rows_15 v_stream v_syndromes_16 v_values_17 v_word_18 v_words) H locs → j96_19 v_inners_12 v_marked_13 v_places_14 v_rows_15 v_syndromes_16 v_values_17 v_word_18 = some res → W p l e (rmK 5 124) s m ([.ref a_this] : List Value).toArray below meth c H locs 0 0 (MQ below (QG D (tyL cB cI cZ) A (fun res : Int32 × Int32 × Int32 × Int32 × Int32 × Int32 × Int32 × Int32 × Int32 × Int32 × Int32 × Int32 × Int32 × (Nat → Int32) × (Nat → Int32) × (Nat → Int32) × (Nat → Int32) × (Nat → Int32) × (Nat → Int32) × (Nat → Int32) × (Nat → Int32) × (Nat → Int32) × (Nat → Int32) => some (.int res.1)) (fun res : Int32 × Int32 × Int32 × Int32 × Int32 × Int32 × Int32 × Int32 × Int32 × Int32 × Int32 × Int32 × Int32 × (Nat → Int32) × (Nat → Int32) × (Nat → Int32) × (Nat → Int32) × (Nat → Int32) × (Nat → Int32) × (Nat → Int32) × (Nat → Int32) × (Nat → Int32) × (Nat → Int32) => (wX10_press cB cI cZ av a_this (res.2.2.2.2.2.2.2.2.2.2.2.1) v_size v_begins v_entries (res.2.2.1) (res.2.2.2.2.2.2.1) (res.2.2.2.2.2.2.2.1) (res.2.2.2.2.2.2.2.2.2.2.2.2.1) (res.2.2.2.1) (res.2.2.2.2.2.2.2.2.1) (res.2.2.2.2.2.2.2.2.2.2.1) (res.2.1) v_found v_strange v_innerFails v_outerFails v_mostMarks v_unsure (res.2.2.2.2.1) (res.2.2.2.2.2.1) (res.2.2.2.2.2.2.2.2.2.1) (res.2.2.2.2.2.2.2.2.2.2.2.2.2.1) (res.2.2.2.2.2.2.2.2.2.2.2.2.2.2.1) v_entryControl v_entryIndex v_entrySection v_entryTrack (res.2.2.2.2.2.2.2.2.2.2.2.2.2.2.2.1) v_logs (res.2.2.2.2.2.2.2.2.2.2.2.2.2.2.2.2.1) (res.2.2.2.2.2.2.2.2.2.2.2.2.2.2.2.2.2.1) (res.2.2.2.2.2.2.2.2.2.2.2.2.2.2.2.2.2.2.1) v_powers (res.2.2.2.2.2.2.2.2.2.2.2.2.2.2.2.2.2.2.2.1) v_stream (res.2.2.2.2.2.2.2.2.2.2.2.2.2.2.2.2.2.2.2.2.1) (res.2.2.2.2.2.2.2.2.2.2.2.2.2.2.2.2.2.2.2.2.2.1) (res.2.2.2.2.2.2.2.2.2.2.2.2.2.2.2.2.2.2.2.2.2.2) v_words)) res) ([.ref a_this] : List Value).toArray s 0 0 A) (F0 m 96 ls []) := by
        intro v_inners_12 v_marked_13 v_places_14 v_rows_15 v_syndromes_16 v_values_17 v_word_18 ls H locs hl hw h
        have h := k7_at ej96_19 h
        refine lv_aload_n (pc := 96) hx hb dX10_press_96 rfl (lv_at hl 0 rfl) ?_
        refine lv_iconst (pc := 97) (v := 0) hx hb dX10_press_97 (by decide) ?_
        refine pf_X10_188 (pc := 98) (wX10_press cB cI cZ av a_this 0 v_size v_begins v_entries 0 v_pressed_3 v_streamFrames_2 0 v_level v_sum v_tail 0 v_found v_strange v_innerFails v_outerFails v_mostMarks v_unsure v_may v_mocks v_sumThen v_bits v_channel v_entryControl v_entryIndex v_entrySection v_entryTrack v_inners_12 v_logs v_marked_13 v_outers_5 v_places_14 v_powers v_rows_15 v_stream v_syndromes_16 v_values_17 v_word_18 v_words) C hw 0 rfl rfl rfl rfl (Nat.le_of_ble_eq_true rfl) dX10_press_98 (fun H locs hw => ?_)
        refine lv_aload_n (pc := 101) hx hb dX10_press_101 rfl (lv_at hl 0 rfl) ?_
        refine lv_iconst (pc := 102) (v := 1) hx hb dX10_press_102 (by decide) ?_
        refine pf_X10_191 (pc := 103) (wX10_press cB cI cZ av a_this 0 v_size v_begins v_entries 0 v_pressed_3 v_streamFrames_2 0 1 v_sum v_tail 0 v_found v_strange v_innerFails v_outerFails v_mostMarks v_unsure v_may v_mocks v_sumThen v_bits v_channel v_entryControl v_entryIndex v_entrySection v_entryTrack v_inners_12 v_logs v_marked_13 v_outers_5 v_places_14 v_powers v_rows_15 v_stream v_syndromes_16 v_values_17 v_word_18 v_words) C hw 0 rfl rfl rfl rfl (Nat.le_of_ble_eq_true rfl) dX10_press_103 (fun H locs hw => ?_)
        refine lv_aload_n (pc := 106) hx hb dX10_press_106 rfl (lv_at hl 0 rfl) ?_
        refine lv_iconst (pc := 107) (v := 0) hx hb dX10_press_107 (by decide) ?_
        refine pf_X10_194 (pc := 108) (wX10_press cB cI cZ av a_this 0 v_size v_begins v_entries 0 v_pressed_3 v_streamFrames_2 0 1 0 v_tail 0 v_found v_strange v_innerFails v_outerFails v_mostMarks v_unsure v_may v_mocks v_sumThen v_bits v_channel v_entryControl v_entryIndex v_entrySection v_entryTrack v_inners_12 v_logs v_marked_13 v_outers_5 v_places_14 v_powers v_rows_15 v_stream v_syndromes_16 v_values_17 v_word_18 v_words) C hw 0 rfl rfl rfl rfl (Nat.le_of_ble_eq_true rfl) dX10_press_108 (fun H locs hw => ?_)
        refine lv_aload_n (pc := 111) hx hb dX10_press_111 rfl (lv_at hl 0 rfl) ?_
        refine lv_iconst (pc := 112) (v := 0) hx hb dX10_press_112 (by decide) ?_
        refine pf_X10_197 (pc := 113) (wX10_press cB cI cZ av a_this 0 v_size v_begins v_entries 0 v_pressed_3 v_streamFrames_2 0 1 0 0 0 v_found v_strange v_innerFails v_outerFails v_mostMarks v_unsure v_may v_mocks v_sumThen v_bits v_channel v_entryControl v_entryIndex v_entrySection v_entryTrack v_inners_12 v_logs v_marked_13 v_outers_5 v_places_14 v_powers v_rows_15 v_stream v_syndromes_16 v_values_17 v_word_18 v_words) C hw 0 rfl rfl rfl rfl (Nat.le_of_ble_eq_true rfl) dX10_press_113 (fun H locs hw => ?_)
        refine lv_aload_n (pc := 116) hx hb dX10_press_116 rfl (lv_at hl 0 rfl) ?_
        refine lv_ldc (pc := 117) (own := RX10) (v := 8392706) hx hb C.2.2.2.1 (C.2.2.2.2.1 _ tw_1272) dX10_press_117 ?_
        refine lv_bipush (pc := 119) (v := 24) hx hb dX10_press_119 (by decide) ?_
        obtain ⟨v_length_20, v_level_21, v_sum_22, v_tail_23, v_zeros_24, v_bits_25, hq_26, h⟩ := ob6_at h
        refine x_callV (pc := 121) (rest := []) (stk := []) (wX10_press cB cI cZ av a_this 0 v_size v_begins v_entries v_length_20 v_pressed_3 v_streamFrames_2 v_zeros_24 v_level_21 v_sum_22 v_tail_23 0 v_found v_strange v_innerFails v_outerFails v_mostMarks v_unsure v_may v_mocks v_sumThen v_bits_25 v_channel v_entryControl v_entryIndex v_entrySection v_entryTrack v_inners_12 v_logs v_marked_13 v_outers_5 v_places_14 v_powers v_rows_15 v_stream v_syndromes_16 v_values_17 v_word_18 v_words) C hw (ct_X10_layBits l D cB cI cZ tw av a_this 0 v_size v_begins v_entries 0 v_pressed_3 v_streamFrames_2 0 1 0 0 0 v_found v_strange v_innerFails v_outerFails v_mostMarks v_unsure v_may v_mocks v_sumThen v_bits 8392706 24 (v_length_20, v_level_21, v_sum_22, v_tail_23, v_zeros_24, v_bits_25) hq_26) cal_X10_layBits tw_1273 (q0 := 0) rfl rfl [0, 1] [2, 3, 4, 5, 6, 7, 8, 9, 10, 11, 12, 13, 14, 15, 16, 17, 18] 19 [((av 21), .inl (cI, 96, .inl v_channel)), ((av 10), .inl (cI, 20, .inl v_entryControl)), ((av 12), .inl (cI, 20, .inl v_entryIndex)), ((av 9), .inl (cI, 20, .inl v_entrySection)), ((av 11), .inl (cI, 20, .inl v_entryTrack)), ((av 28), .inl (cI, 20480, .inl v_inners_12)), ((av 4), .inl (cI, 256, .inl v_logs)), ((av 23), .inl (cZ, 32, .inl v_marked_13)), ((av 31), .inl (cI, 17920, .inl v_outers_5)), ((av 25), .inl (cI, 4, .inl v_places_14)), ((av 3), .inl (cI, 512, .inl v_powers)), ((av 27), .inl (cI, 20, .inl v_rows_15)), ((av 5), .inl (cB, 11712, .inl v_stream)), ((av 24), .inl (cI, 4, .inl v_syndromes_16)), ((av 26), .inl (cI, 4, .inl v_values_17)), ((av 22), .inl (cI, 32, .inl v_word_18)), ((av 1), .inl (cI, 256, .inl v_words))] rfl rfl rfl rfl rfl rfl rfl rfl rfl rfl rfl (Nat.le_of_ble_eq_true rfl) hl.1 ⟨Nat.le_of_ble_eq_true rfl, Nat.le_of_ble_eq_true rfl⟩ ⟨Nat.zero_le _, Nat.zero_le _⟩ dX10_press_121 (fun H locs hw => ?_)
        refine lv_iconst (pc := 124) (v := 0) hx hb dX10_press_124 (by decide) ?_
        refine lv_istore_n (pc := 125) (lv' := [(1, .int 0), (0, .ref a_this)]) hx hb dX10_press_125 rfl hl (by decide) rfl (fun ls hl => ?_)
        obtain ⟨j200_37, ej200_37, h⟩ := jk_at h
        have J200_37 : ∀ (v_length_27 : Int32) (v_zeros_28 : Int32) (v_level_29 : Int32) (v_sum_30 : Int32) (v_tail_31 : Int32) (v_may_32 : Int32) (v_mocks_33 : Int32) (v_sumThen_34 : Int32) (v_bits_35 : Nat → Int32) (v_channel_36 : Nat → Int32) (ls : Array Slot) (H : Heap) (locs : List Loc), lv_has ls 3 [(0, .ref a_this)] → Wd D A s (wX10_press cB cI cZ av a_this 0 v_size v_begins v_entries v_length_27 v_pressed_3 v_streamFrames_2 v_zeros_28 v_level_29 v_sum_30 v_tail_31 0 v_found v_strange v_innerFails v_outerFails v_mostMarks v_unsure v_may_32 v_mocks_33 v_sumThen_34 v_bits_35 v_channel_36 v_entryControl v_entryIndex v_entrySection v_entryTrack v_inners_12 v_logs v_marked_13 v_outers_5 v_places_14 v_powers v_rows_15 v_stream v_syndromes_16 v_values_17 v_word_18 v_words) H locs → j200_37 v_length_27 v_zeros_28 v_level_29 v_sum_30 v_tail_31 v_may_32 v_mocks_33 v_sumThen_34 v_bits_35 v_channel_36 = some res → W p l e (rmK 5 124) s m ([.ref a_this] : List Value).toArray below meth c H locs 0 0 (MQ below (QG D (tyL cB cI cZ) A (fun res : Int32 × Int32 × Int32 × Int32 × Int32 × Int32 × Int32 × Int32 × Int32 × Int32 × Int32 × Int32 × Int32 × (Nat → Int32) × (Nat → Int32) × (Nat → Int32) × (Nat → Int32) × (Nat → Int32) × (Nat → Int32) × (Nat → Int32) × (Nat → Int32) × (Nat → Int32) × (Nat → Int32) => some (.int res.1)) (fun res : Int32 × Int32 × Int32 × Int32 × Int32 × Int32 × Int32 × Int32 × Int32 × Int32 × Int32 × Int32 × Int32 × (Nat → Int32) × (Nat → Int32) × (Nat → Int32) × (Nat → Int32) × (Nat → Int32) × (Nat → Int32) × (Nat → Int32) × (Nat → Int32) × (Nat → Int32) × (Nat → Int32) => (wX10_press cB cI cZ av a_this (res.2.2.2.2.2.2.2.2.2.2.2.1) v_size v_begins v_entries (res.2.2.1) (res.2.2.2.2.2.2.1) (res.2.2.2.2.2.2.2.1) (res.2.2.2.2.2.2.2.2.2.2.2.2.1) (res.2.2.2.1) (res.2.2.2.2.2.2.2.2.1) (res.2.2.2.2.2.2.2.2.2.2.1) (res.2.1) v_found v_strange v_innerFails v_outerFails v_mostMarks v_unsure (res.2.2.2.2.1) (res.2.2.2.2.2.1) (res.2.2.2.2.2.2.2.2.2.1) (res.2.2.2.2.2.2.2.2.2.2.2.2.2.1) (res.2.2.2.2.2.2.2.2.2.2.2.2.2.2.1) v_entryControl v_entryIndex v_entrySection v_entryTrack (res.2.2.2.2.2.2.2.2.2.2.2.2.2.2.2.1) v_logs (res.2.2.2.2.2.2.2.2.2.2.2.2.2.2.2.2.1) (res.2.2.2.2.2.2.2.2.2.2.2.2.2.2.2.2.2.1) (res.2.2.2.2.2.2.2.2.2.2.2.2.2.2.2.2.2.2.1) v_powers (res.2.2.2.2.2.2.2.2.2.2.2.2.2.2.2.2.2.2.2.1) v_stream (res.2.2.2.2.2.2.2.2.2.2.2.2.2.2.2.2.2.2.2.2.1) (res.2.2.2.2.2.2.2.2.2.2.2.2.2.2.2.2.2.2.2.2.2.1) (res.2.2.2.2.2.2.2.2.2.2.2.2.2.2.2.2.2.2.2.2.2.2) v_words)) res) ([.ref a_this] : List Value).toArray s 0 0 A) (F0 m 200 ls []) := by
          intro v_length_27 v_zeros_28 v_level_29 v_sum_30 v_tail_31 v_may_32 v_mocks_33 v_sumThen_34 v_bits_35 v_channel_36 ls H locs hl hw h
          have h := k10_at ej200_37 h
          refine lv_aload_n (pc := 200) hx hb dX10_press_200 rfl (lv_at hl 0 rfl) ?_
          refine lv_iconst (pc := 201) (v := 0) hx hb dX10_press_201 (by decide) ?_
          refine lv_iconst (pc := 202) (v := 3) hx hb dX10_press_202 (by decide) ?_
          obtain ⟨v_length_38, v_level_39, v_sum_40, v_tail_41, v_zeros_42, v_bits_43, hq_44, h⟩ := ob6_at h
          refine x_callV (pc := 203) (rest := []) (stk := []) (wX10_press cB cI cZ av a_this 0 v_size v_begins v_entries v_length_38 v_pressed_3 v_streamFrames_2 v_zeros_42 v_level_39 v_sum_40 v_tail_41 0 v_found v_strange v_innerFails v_outerFails v_mostMarks v_unsure v_may_32 v_mocks_33 v_sumThen_34 v_bits_43 v_channel_36 v_entryControl v_entryIndex v_entrySection v_entryTrack v_inners_12 v_logs v_marked_13 v_outers_5 v_places_14 v_powers v_rows_15 v_stream v_syndromes_16 v_values_17 v_word_18 v_words) C hw (ct_X10_layBits l D cB cI cZ tw av a_this 0 v_size v_begins v_entries v_length_27 v_pressed_3 v_streamFrames_2 v_zeros_28 v_level_29 v_sum_30 v_tail_31 0 v_found v_strange v_innerFails v_outerFails v_mostMarks v_unsure v_may_32 v_mocks_33 v_sumThen_34 v_bits_35 0 3 (v_length_38, v_level_39, v_sum_40, v_tail_41, v_zeros_42, v_bits_43) hq_44) cal_X10_layBits tw_1273 (q0 := 0) rfl rfl [0, 1] [2, 3, 4, 5, 6, 7, 8, 9, 10, 11, 12, 13, 14, 15, 16, 17, 18] 19 [((av 21), .inl (cI, 96, .inl v_channel_36)), ((av 10), .inl (cI, 20, .inl v_entryControl)), ((av 12), .inl (cI, 20, .inl v_entryIndex)), ((av 9), .inl (cI, 20, .inl v_entrySection)), ((av 11), .inl (cI, 20, .inl v_entryTrack)), ((av 28), .inl (cI, 20480, .inl v_inners_12)), ((av 4), .inl (cI, 256, .inl v_logs)), ((av 23), .inl (cZ, 32, .inl v_marked_13)), ((av 31), .inl (cI, 17920, .inl v_outers_5)), ((av 25), .inl (cI, 4, .inl v_places_14)), ((av 3), .inl (cI, 512, .inl v_powers)), ((av 27), .inl (cI, 20, .inl v_rows_15)), ((av 5), .inl (cB, 11712, .inl v_stream)), ((av 24), .inl (cI, 4, .inl v_syndromes_16)), ((av 26), .inl (cI, 4, .inl v_values_17)), ((av 22), .inl (cI, 32, .inl v_word_18)), ((av 1), .inl (cI, 256, .inl v_words))] rfl rfl rfl rfl rfl rfl rfl rfl rfl rfl rfl (Nat.le_of_ble_eq_true rfl) hl.1 ⟨Nat.le_of_ble_eq_true rfl, Nat.le_of_ble_eq_true rfl⟩ ⟨Nat.zero_le _, Nat.zero_le _⟩ dX10_press_203 (fun H locs hw => ?_)
          refine lv_aload_n (pc := 206) hx hb dX10_press_206 rfl (lv_at hl 0 rfl) ?_
          refine gf_X10_231 (pc := 207) C hw 0 rfl rfl dX10_press_207 ?_
          exact x_iret (pc := 210) (v := (v_pressed_3, 0, v_length_38, v_level_39, v_may_32, v_mocks_33, v_pressed_3, v_streamFrames_2, v_sum_40, v_sumThen_34, v_tail_41, 0, v_zeros_42, v_bits_43, v_channel_36, v_inners_12, v_marked_13, v_outers_5, v_places_14, v_rows_15, v_syndromes_16, v_values_17, v_word_18)) C (Option.some.inj h) rfl hw dX10_press_210
        have Lih126_56 : ∀ (F : Nat) (x1_45 : Int32) (v_length_46 : Int32) (v_zeros_47 : Int32) (v_level_48 : Int32) (v_sum_49 : Int32) (v_tail_50 : Int32) (v_may_51 : Int32) (v_mocks_52 : Int32) (v_sumThen_53 : Int32) (v_bits_54 : Nat → Int32) (v_channel_55 : Nat → Int32) (ls : Array Slot) (H : Heap) (locs : List Loc), lv_has ls 3 [(1, .int x1_45), (0, .ref a_this)] → Wd D A s (wX10_press cB cI cZ av a_this 0 v_size v_begins v_entries v_length_46 v_pressed_3 v_streamFrames_2 v_zeros_47 v_level_48 v_sum_49 v_tail_50 0 v_found v_strange v_innerFails v_outerFails v_mostMarks v_unsure v_may_51 v_mocks_52 v_sumThen_53 v_bits_54 v_channel_55 v_entryControl v_entryIndex v_entrySection v_entryTrack v_inners_12 v_logs v_marked_13 v_outers_5 v_places_14 v_powers v_rows_15 v_stream v_syndromes_16 v_values_17 v_word_18 v_words) H locs → fX10_press_L126 v_pressed_3 j200_37 v_begins v_entries v_entryControl v_entryIndex v_entrySection v_entryTrack v_words v_inners_12 F x1_45 v_length_46 v_zeros_47 v_level_48 v_sum_49 v_tail_50 v_may_51 v_mocks_52 v_sumThen_53 v_bits_54 v_channel_55 = some res → W p l e (rmK 5 124) s m ([.ref a_this] : List Value).toArray below meth c H locs 0 0 (MQ below (QG D (tyL cB cI cZ) A (fun res : Int32 × Int32 × Int32 × Int32 × Int32 × Int32 × Int32 × Int32 × Int32 × Int32 × Int32 × Int32 × Int32 × (Nat → Int32) × (Nat → Int32) × (Nat → Int32) × (Nat → Int32) × (Nat → Int32) × (Nat → Int32) × (Nat → Int32) × (Nat → Int32) × (Nat → Int32) × (Nat → Int32) => some (.int res.1)) (fun res : Int32 × Int32 × Int32 × Int32 × Int32 × Int32 × Int32 × Int32 × Int32 × Int32 × Int32 × Int32 × Int32 × (Nat → Int32) × (Nat → Int32) × (Nat → Int32) × (Nat → Int32) × (Nat → Int32) × (Nat → Int32) × (Nat → Int32) × (Nat → Int32) × (Nat → Int32) × (Nat → Int32) => (wX10_press cB cI cZ av a_this (res.2.2.2.2.2.2.2.2.2.2.2.1) v_size v_begins v_entries (res.2.2.1) (res.2.2.2.2.2.2.1) (res.2.2.2.2.2.2.2.1) (res.2.2.2.2.2.2.2.2.2.2.2.2.1) (res.2.2.2.1) (res.2.2.2.2.2.2.2.2.1) (res.2.2.2.2.2.2.2.2.2.2.1) (res.2.1) v_found v_strange v_innerFails v_outerFails v_mostMarks v_unsure (res.2.2.2.2.1) (res.2.2.2.2.2.1) (res.2.2.2.2.2.2.2.2.2.1) (res.2.2.2.2.2.2.2.2.2.2.2.2.2.1) (res.2.2.2.2.2.2.2.2.2.2.2.2.2.2.1) v_entryControl v_entryIndex v_entrySection v_entryTrack (res.2.2.2.2.2.2.2.2.2.2.2.2.2.2.2.1) v_logs (res.2.2.2.2.2.2.2.2.2.2.2.2.2.2.2.2.1) (res.2.2.2.2.2.2.2.2.2.2.2.2.2.2.2.2.2.1) (res.2.2.2.2.2.2.2.2.2.2.2.2.2.2.2.2.2.2.1) v_powers (res.2.2.2.2.2.2.2.2.2.2.2.2.2.2.2.2.2.2.2.1) v_stream (res.2.2.2.2.2.2.2.2.2.2.2.2.2.2.2.2.2.2.2.2.1) (res.2.2.2.2.2.2.2.2.2.2.2.2.2.2.2.2.2.2.2.2.2.1) (res.2.2.2.2.2.2.2.2.2.2.2.2.2.2.2.2.2.2.2.2.2.2) v_words)) res) ([.ref a_this] : List Value).toArray s 0 0 A) (F0 m 126 ls []) := by
          intro F
          induction F with
          | zero => intro x1_45 v_length_46 v_zeros_47 v_level_48 v_sum_49 v_tail_50 v_may_51 v_mocks_52 v_sumThen_53 v_bits_54 v_channel_55 ls H locs hl hw h; rw [fX10_press_L126.eq_1] at h; cases h
          | succ F126_56 ih126_56 =>
            intro x1_45 v_length_46 v_zeros_47 v_level_48 v_sum_49 v_tail_50 v_may_51 v_mocks_52 v_sumThen_53 v_bits_54 v_channel_55 ls H locs hl hw h
            rw [fX10_press_L126.eq_2] at h
            refine lv_iload_n (pc := 126) hx hb dX10_press_126 rfl (lv_at hl 0 rfl) ?_
            refine lv_aload_n (pc := 127) hx hb dX10_press_127 rfl (lv_at hl 1 rfl) ?_
            refine gf_X10_231 (pc := 128) C hw 0 rfl rfl dX10_press_128 ?_
            refine lv_icmp_ge (pc := 131) (tgt := 200) hx hb dX10_press_131 (by decide) (fun hc_57 => ?_) (fun hc_57 => ?_)
            · have h := ift hc_57 h
              exact J200_37 v_length_46 v_zeros_47 v_level_48 v_sum_49 v_tail_50 v_may_51 v_mocks_52 v_sumThen_53 v_bits_54 v_channel_55 ls _ _ (lv_sub hl [1] rfl) hw h
            · have h := iff' hc_57 h
              refine lv_aload_n (pc := 134) hx hb dX10_press_134 rfl (lv_at hl 1 rfl) ?_
              refine lv_aload_n (pc := 135) hx hb dX10_press_135 rfl (lv_at hl 1 rfl) ?_
              refine lv_iload_n (pc := 136) hx hb dX10_press_136 rfl (lv_at hl 0 rfl) ?_
              obtain ⟨r_58, v_channel_59, hq_60, h⟩ := ob2_at h
              refine x_callV (pc := 137) (rest := [.ref a_this]) (stk := [.int r_58, .ref a_this]) (wX10_press cB cI cZ av a_this 0 v_size v_begins v_entries v_length_46 v_pressed_3 v_streamFrames_2 v_zeros_47 v_level_48 v_sum_49 v_tail_50 0 v_found v_strange v_innerFails v_outerFails v_mostMarks v_unsure v_may_51 v_mocks_52 v_sumThen_53 v_bits_54 v_channel_59 v_entryControl v_entryIndex v_entrySection v_entryTrack v_inners_12 v_logs v_marked_13 v_outers_5 v_places_14 v_powers v_rows_15 v_stream v_syndromes_16 v_values_17 v_word_18 v_words) C hw (ct_X10_besideWord l D cB cI cZ tw av a_this 0 v_size v_begins v_entries v_length_46 v_pressed_3 v_streamFrames_2 v_zeros_47 v_level_48 v_sum_49 v_tail_50 0 v_found v_strange v_innerFails v_outerFails v_mostMarks v_unsure v_may_51 v_mocks_52 v_sumThen_53 v_channel_55 v_entryControl v_entryIndex v_entrySection v_entryTrack v_words x1_45 (r_58, v_channel_59) hq_60) cal_X10_besideWord tw_1278 (q0 := 0) rfl rfl [0, 2, 3, 4, 5, 6, 18] [1, 7, 8, 9, 10, 11, 12, 13, 14, 15, 16, 17] 19 [((av 13), .inl (cB, 360000, .inl v_bits_54)), ((av 28), .inl (cI, 20480, .inl v_inners_12)), ((av 4), .inl (cI, 256, .inl v_logs)), ((av 23), .inl (cZ, 32, .inl v_marked_13)), ((av 31), .inl (cI, 17920, .inl v_outers_5)), ((av 25), .inl (cI, 4, .inl v_places_14)), ((av 3), .inl (cI, 512, .inl v_powers)), ((av 27), .inl (cI, 20, .inl v_rows_15)), ((av 5), .inl (cB, 11712, .inl v_stream)), ((av 24), .inl (cI, 4, .inl v_syndromes_16)), ((av 26), .inl (cI, 4, .inl v_values_17)), ((av 22), .inl (cI, 32, .inl v_word_18))] rfl rfl rfl rfl rfl rfl rfl rfl rfl rfl rfl (Nat.le_of_ble_eq_true rfl) hl.1 ⟨Nat.le_of_ble_eq_true rfl, Nat.le_of_ble_eq_true rfl⟩ ⟨Nat.zero_le _, Nat.zero_le _⟩ dX10_press_137 (fun H locs hw => ?_)
              refine lv_bipush (pc := 140) (v := 14) hx hb dX10_press_140 (by decide) ?_
              obtain ⟨v_length_61, v_level_62, v_may_63, v_mocks_64, v_sum_65, v_sumThen_66, v_tail_67, v_zeros_68, v_bits_69, hq_70, h⟩ := ob9_at h
              refine x_callV (pc := 142) (rest := []) (stk := []) (wX10_press cB cI cZ av a_this 0 v_size v_begins v_entries v_length_61 v_pressed_3 v_streamFrames_2 v_zeros_68 v_level_62 v_sum_65 v_tail_67 0 v_found v_strange v_innerFails v_outerFails v_mostMarks v_unsure v_may_63 v_mocks_64 v_sumThen_66 v_bits_69 v_channel_59 v_entryControl v_entryIndex v_entrySection v_entryTrack v_inners_12 v_logs v_marked_13 v_outers_5 v_places_14 v_powers v_rows_15 v_stream v_syndromes_16 v_values_17 v_word_18 v_words) C hw (ct_X10_layWord l D cB cI cZ tw av a_this 0 v_size v_begins v_entries v_length_46 v_pressed_3 v_streamFrames_2 v_zeros_47 v_level_48 v_sum_49 v_tail_50 0 v_found v_strange v_innerFails v_outerFails v_mostMarks v_unsure v_may_51 v_mocks_52 v_sumThen_53 v_bits_54 r_58 14 (v_length_61, v_level_62, v_may_63, v_mocks_64, v_sum_65, v_sumThen_66, v_tail_67, v_zeros_68, v_bits_69) hq_70) cal_X10_layWord tw_1314 (q0 := 0) rfl rfl [0, 1] [2, 3, 4, 5, 6, 7, 8, 9, 10, 11, 12, 13, 14, 15, 16, 17, 18] 19 [((av 21), .inl (cI, 96, .inl v_channel_59)), ((av 10), .inl (cI, 20, .inl v_entryControl)), ((av 12), .inl (cI, 20, .inl v_entryIndex)), ((av 9), .inl (cI, 20, .inl v_entrySection)), ((av 11), .inl (cI, 20, .inl v_entryTrack)), ((av 28), .inl (cI, 20480, .inl v_inners_12)), ((av 4), .inl (cI, 256, .inl v_logs)), ((av 23), .inl (cZ, 32, .inl v_marked_13)), ((av 31), .inl (cI, 17920, .inl v_outers_5)), ((av 25), .inl (cI, 4, .inl v_places_14)), ((av 3), .inl (cI, 512, .inl v_powers)), ((av 27), .inl (cI, 20, .inl v_rows_15)), ((av 5), .inl (cB, 11712, .inl v_stream)), ((av 24), .inl (cI, 4, .inl v_syndromes_16)), ((av 26), .inl (cI, 4, .inl v_values_17)), ((av 22), .inl (cI, 32, .inl v_word_18)), ((av 1), .inl (cI, 256, .inl v_words))] rfl rfl rfl rfl rfl rfl rfl rfl rfl rfl rfl (Nat.le_of_ble_eq_true rfl) hl.1 ⟨Nat.le_of_ble_eq_true rfl, Nat.le_of_ble_eq_true rfl⟩ ⟨Nat.zero_le _, Nat.zero_le _⟩ dX10_press_142 (fun H locs hw => ?_)
              refine lv_iconst (pc := 145) (v := 0) hx hb dX10_press_145 (by decide) ?_
              refine lv_istore_n (pc := 146) (lv' := [(2, .int 0), (1, .int x1_45), (0, .ref a_this)]) hx hb dX10_press_146 rfl hl (by decide) rfl (fun ls hl => ?_)
              obtain ⟨j176_80, ej176_80, h⟩ := jk_at h
              have J176_80 : ∀ (v_length_71 : Int32) (v_zeros_72 : Int32) (v_level_73 : Int32) (v_sum_74 : Int32) (v_tail_75 : Int32) (v_may_76 : Int32) (v_mocks_77 : Int32) (v_sumThen_78 : Int32) (v_bits_79 : Nat → Int32) (ls : Array Slot) (H : Heap) (locs : List Loc), lv_has ls 3 [(1, .int x1_45), (0, .ref a_this)] → Wd D A s (wX10_press cB cI cZ av a_this 0 v_size v_begins v_entries v_length_71 v_pressed_3 v_streamFrames_2 v_zeros_72 v_level_73 v_sum_74 v_tail_75 0 v_found v_strange v_innerFails v_outerFails v_mostMarks v_unsure v_may_76 v_mocks_77 v_sumThen_78 v_bits_79 v_channel_59 v_entryControl v_entryIndex v_entrySection v_entryTrack v_inners_12 v_logs v_marked_13 v_outers_5 v_places_14 v_powers v_rows_15 v_stream v_syndromes_16 v_values_17 v_word_18 v_words) H locs → j176_80 v_length_71 v_zeros_72 v_level_73 v_sum_74 v_tail_75 v_may_76 v_mocks_77 v_sumThen_78 v_bits_79 = some res → W p l e (rmK 5 124) s m ([.ref a_this] : List Value).toArray below meth c H locs 0 0 (MQ below (QG D (tyL cB cI cZ) A (fun res : Int32 × Int32 × Int32 × Int32 × Int32 × Int32 × Int32 × Int32 × Int32 × Int32 × Int32 × Int32 × Int32 × (Nat → Int32) × (Nat → Int32) × (Nat → Int32) × (Nat → Int32) × (Nat → Int32) × (Nat → Int32) × (Nat → Int32) × (Nat → Int32) × (Nat → Int32) × (Nat → Int32) => some (.int res.1)) (fun res : Int32 × Int32 × Int32 × Int32 × Int32 × Int32 × Int32 × Int32 × Int32 × Int32 × Int32 × Int32 × Int32 × (Nat → Int32) × (Nat → Int32) × (Nat → Int32) × (Nat → Int32) × (Nat → Int32) × (Nat → Int32) × (Nat → Int32) × (Nat → Int32) × (Nat → Int32) × (Nat → Int32) => (wX10_press cB cI cZ av a_this (res.2.2.2.2.2.2.2.2.2.2.2.1) v_size v_begins v_entries (res.2.2.1) (res.2.2.2.2.2.2.1) (res.2.2.2.2.2.2.2.1) (res.2.2.2.2.2.2.2.2.2.2.2.2.1) (res.2.2.2.1) (res.2.2.2.2.2.2.2.2.1) (res.2.2.2.2.2.2.2.2.2.2.1) (res.2.1) v_found v_strange v_innerFails v_outerFails v_mostMarks v_unsure (res.2.2.2.2.1) (res.2.2.2.2.2.1) (res.2.2.2.2.2.2.2.2.2.1) (res.2.2.2.2.2.2.2.2.2.2.2.2.2.1) (res.2.2.2.2.2.2.2.2.2.2.2.2.2.2.1) v_entryControl v_entryIndex v_entrySection v_entryTrack (res.2.2.2.2.2.2.2.2.2.2.2.2.2.2.2.1) v_logs (res.2.2.2.2.2.2.2.2.2.2.2.2.2.2.2.2.1) (res.2.2.2.2.2.2.2.2.2.2.2.2.2.2.2.2.2.1) (res.2.2.2.2.2.2.2.2.2.2.2.2.2.2.2.2.2.2.1) v_powers (res.2.2.2.2.2.2.2.2.2.2.2.2.2.2.2.2.2.2.2.1) v_stream (res.2.2.2.2.2.2.2.2.2.2.2.2.2.2.2.2.2.2.2.2.1) (res.2.2.2.2.2.2.2.2.2.2.2.2.2.2.2.2.2.2.2.2.2.1) (res.2.2.2.2.2.2.2.2.2.2.2.2.2.2.2.2.2.2.2.2.2.2) v_words)) res) ([.ref a_this] : List Value).toArray s 0 0 A) (F0 m 176 ls []) := by
                intro v_length_71 v_zeros_72 v_level_73 v_sum_74 v_tail_75 v_may_76 v_mocks_77 v_sumThen_78 v_bits_79 ls H locs hl hw h
                have h := k9_at ej176_80 h
                refine lv_iload_n (pc := 176) hx hb dX10_press_176 rfl (lv_at hl 0 rfl) ?_
                refine lv_iconst (pc := 177) (v := 1) hx hb dX10_press_177 (by decide) ?_
                refine lv_iadd (pc := 178) hx hb dX10_press_178 ?_
                refine lv_aload_n (pc := 179) hx hb dX10_press_179 rfl (lv_at hl 1 rfl) ?_
                refine gf_X10_231 (pc := 180) C hw 0 rfl rfl dX10_press_180 ?_
                obtain ⟨j194_90, ej194_90, h⟩ := jk_at h
                have J194_90 : ∀ (v_length_81 : Int32) (v_zeros_82 : Int32) (v_level_83 : Int32) (v_sum_84 : Int32) (v_tail_85 : Int32) (v_may_86 : Int32) (v_mocks_87 : Int32) (v_sumThen_88 : Int32) (v_bits_89 : Nat → Int32) (ls : Array Slot) (H : Heap) (locs : List Loc), lv_has ls 3 [(1, .int x1_45), (0, .ref a_this)] → Wd D A s (wX10_press cB cI cZ av a_this 0 v_size v_begins v_entries v_length_81 v_pressed_3 v_streamFrames_2 v_zeros_82 v_level_83 v_sum_84 v_tail_85 0 v_found v_strange v_innerFails v_outerFails v_mostMarks v_unsure v_may_86 v_mocks_87 v_sumThen_88 v_bits_89 v_channel_59 v_entryControl v_entryIndex v_entrySection v_entryTrack v_inners_12 v_logs v_marked_13 v_outers_5 v_places_14 v_powers v_rows_15 v_stream v_syndromes_16 v_values_17 v_word_18 v_words) H locs → j194_90 v_length_81 v_zeros_82 v_level_83 v_sum_84 v_tail_85 v_may_86 v_mocks_87 v_sumThen_88 v_bits_89 = some res → W p l e (rmK 5 124) s m ([.ref a_this] : List Value).toArray below meth c H locs 0 0 (MQ below (QG D (tyL cB cI cZ) A (fun res : Int32 × Int32 × Int32 × Int32 × Int32 × Int32 × Int32 × Int32 × Int32 × Int32 × Int32 × Int32 × Int32 × (Nat → Int32) × (Nat → Int32) × (Nat → Int32) × (Nat → Int32) × (Nat → Int32) × (Nat → Int32) × (Nat → Int32) × (Nat → Int32) × (Nat → Int32) × (Nat → Int32) => some (.int res.1)) (fun res : Int32 × Int32 × Int32 × Int32 × Int32 × Int32 × Int32 × Int32 × Int32 × Int32 × Int32 × Int32 × Int32 × (Nat → Int32) × (Nat → Int32) × (Nat → Int32) × (Nat → Int32) × (Nat → Int32) × (Nat → Int32) × (Nat → Int32) × (Nat → Int32) × (Nat → Int32) × (Nat → Int32) => (wX10_press cB cI cZ av a_this (res.2.2.2.2.2.2.2.2.2.2.2.1) v_size v_begins v_entries (res.2.2.1) (res.2.2.2.2.2.2.1) (res.2.2.2.2.2.2.2.1) (res.2.2.2.2.2.2.2.2.2.2.2.2.1) (res.2.2.2.1) (res.2.2.2.2.2.2.2.2.1) (res.2.2.2.2.2.2.2.2.2.2.1) (res.2.1) v_found v_strange v_innerFails v_outerFails v_mostMarks v_unsure (res.2.2.2.2.1) (res.2.2.2.2.2.1) (res.2.2.2.2.2.2.2.2.2.1) (res.2.2.2.2.2.2.2.2.2.2.2.2.2.1) (res.2.2.2.2.2.2.2.2.2.2.2.2.2.2.1) v_entryControl v_entryIndex v_entrySection v_entryTrack (res.2.2.2.2.2.2.2.2.2.2.2.2.2.2.2.1) v_logs (res.2.2.2.2.2.2.2.2.2.2.2.2.2.2.2.2.1) (res.2.2.2.2.2.2.2.2.2.2.2.2.2.2.2.2.2.1) (res.2.2.2.2.2.2.2.2.2.2.2.2.2.2.2.2.2.2.1) v_powers (res.2.2.2.2.2.2.2.2.2.2.2.2.2.2.2.2.2.2.2.1) v_stream (res.2.2.2.2.2.2.2.2.2.2.2.2.2.2.2.2.2.2.2.2.1) (res.2.2.2.2.2.2.2.2.2.2.2.2.2.2.2.2.2.2.2.2.2.1) (res.2.2.2.2.2.2.2.2.2.2.2.2.2.2.2.2.2.2.2.2.2.2) v_words)) res) ([.ref a_this] : List Value).toArray s 0 0 A) (F0 m 194 ls []) := by
                  intro v_length_81 v_zeros_82 v_level_83 v_sum_84 v_tail_85 v_may_86 v_mocks_87 v_sumThen_88 v_bits_89 ls H locs hl hw h
                  have h := k9_at ej194_90 h
                  obtain ⟨x1_91, ex1_91⟩ : ∃ y : Int32, y = x1_45 + 1 := ⟨_, rfl⟩
                  have h := nm_at ex1_91 h
                  refine lv_iinc (pc := 194) (v := x1_91) (lv' := [(1, .int x1_91), (0, .ref a_this)]) hx hb dX10_press_194 hl (k := 0) rfl (by rw [ex1_91]; rfl) (by decide) rfl (fun ls hl => ?_)
                  refine lv_goto (pc := 197) (tgt := 126) hx hb dX10_press_197 (by decide) ?_
                  exact ih126_56 x1_91 v_length_81 v_zeros_82 v_level_83 v_sum_84 v_tail_85 v_may_86 v_mocks_87 v_sumThen_88 v_bits_89 v_channel_59 ls _ _ (lv_sub hl [0, 1] rfl) hw h
                refine lv_icmp_ge (pc := 183) (tgt := 194) hx hb dX10_press_183 (by decide) (fun hc_92 => ?_) (fun hc_92 => ?_)
                · have h := ift hc_92 h
                  exact J194_90 v_length_71 v_zeros_72 v_level_73 v_sum_74 v_tail_75 v_may_76 v_mocks_77 v_sumThen_78 v_bits_79 ls _ _ (lv_sub hl [0, 1] rfl) hw h
                · have h := iff' hc_92 h
                  refine lv_aload_n (pc := 186) hx hb dX10_press_186 rfl (lv_at hl 1 rfl) ?_
                  refine lv_ldc (pc := 187) (own := RX10) (v := 8392706) hx hb C.2.2.2.1 (C.2.2.2.2.1 _ tw_1272) dX10_press_187 ?_
                  refine lv_bipush (pc := 189) (v := 24) hx hb dX10_press_189 (by decide) ?_
                  obtain ⟨v_length_93, v_level_94, v_may_95, v_mocks_96, v_sum_97, v_sumThen_98, v_tail_99, v_zeros_100, v_bits_101, hq_102, h⟩ := ob9_at h
                  refine x_callV (pc := 191) (rest := []) (stk := []) (wX10_press cB cI cZ av a_this 0 v_size v_begins v_entries v_length_93 v_pressed_3 v_streamFrames_2 v_zeros_100 v_level_94 v_sum_97 v_tail_99 0 v_found v_strange v_innerFails v_outerFails v_mostMarks v_unsure v_may_95 v_mocks_96 v_sumThen_98 v_bits_101 v_channel_59 v_entryControl v_entryIndex v_entrySection v_entryTrack v_inners_12 v_logs v_marked_13 v_outers_5 v_places_14 v_powers v_rows_15 v_stream v_syndromes_16 v_values_17 v_word_18 v_words) C hw (ct_X10_layWord l D cB cI cZ tw av a_this 0 v_size v_begins v_entries v_length_71 v_pressed_3 v_streamFrames_2 v_zeros_72 v_level_73 v_sum_74 v_tail_75 0 v_found v_strange v_innerFails v_outerFails v_mostMarks v_unsure v_may_76 v_mocks_77 v_sumThen_78 v_bits_79 8392706 24 (v_length_93, v_level_94, v_may_95, v_mocks_96, v_sum_97, v_sumThen_98, v_tail_99, v_zeros_100, v_bits_101) hq_102) cal_X10_layWord tw_1314 (q0 := 0) rfl rfl [0, 1] [2, 3, 4, 5, 6, 7, 8, 9, 10, 11, 12, 13, 14, 15, 16, 17, 18] 19 [((av 21), .inl (cI, 96, .inl v_channel_59)), ((av 10), .inl (cI, 20, .inl v_entryControl)), ((av 12), .inl (cI, 20, .inl v_entryIndex)), ((av 9), .inl (cI, 20, .inl v_entrySection)), ((av 11), .inl (cI, 20, .inl v_entryTrack)), ((av 28), .inl (cI, 20480, .inl v_inners_12)), ((av 4), .inl (cI, 256, .inl v_logs)), ((av 23), .inl (cZ, 32, .inl v_marked_13)), ((av 31), .inl (cI, 17920, .inl v_outers_5)), ((av 25), .inl (cI, 4, .inl v_places_14)), ((av 3), .inl (cI, 512, .inl v_powers)), ((av 27), .inl (cI, 20, .inl v_rows_15)), ((av 5), .inl (cB, 11712, .inl v_stream)), ((av 24), .inl (cI, 4, .inl v_syndromes_16)), ((av 26), .inl (cI, 4, .inl v_values_17)), ((av 22), .inl (cI, 32, .inl v_word_18)), ((av 1), .inl (cI, 256, .inl v_words))] rfl rfl rfl rfl rfl rfl rfl rfl rfl rfl rfl (Nat.le_of_ble_eq_true rfl) hl.1 ⟨Nat.le_of_ble_eq_true rfl, Nat.le_of_ble_eq_true rfl⟩ ⟨Nat.zero_le _, Nat.zero_le _⟩ dX10_press_191 (fun H locs hw => ?_)
                  exact J194_90 v_length_93 v_zeros_100 v_level_94 v_sum_97 v_tail_99 v_may_95 v_mocks_96 v_sumThen_98 v_bits_101 ls _ _ (lv_sub hl [0, 1] rfl) hw h
              have Lih147_113 : ∀ (F : Nat) (x2_103 : Int32) (v_length_104 : Int32) (v_zeros_105 : Int32) (v_level_106 : Int32) (v_sum_107 : Int32) (v_tail_108 : Int32) (v_may_109 : Int32) (v_mocks_110 : Int32) (v_sumThen_111 : Int32) (v_bits_112 : Nat → Int32) (ls : Array Slot) (H : Heap) (locs : List Loc), lv_has ls 3 [(2, .int x2_103), (1, .int x1_45), (0, .ref a_this)] → Wd D A s (wX10_press cB cI cZ av a_this 0 v_size v_begins v_entries v_length_104 v_pressed_3 v_streamFrames_2 v_zeros_105 v_level_106 v_sum_107 v_tail_108 0 v_found v_strange v_innerFails v_outerFails v_mostMarks v_unsure v_may_109 v_mocks_110 v_sumThen_111 v_bits_112 v_channel_59 v_entryControl v_entryIndex v_entrySection v_entryTrack v_inners_12 v_logs v_marked_13 v_outers_5 v_places_14 v_powers v_rows_15 v_stream v_syndromes_16 v_values_17 v_word_18 v_words) H locs → fX10_press_L147 j176_80 v_inners_12 x1_45 v_words F x2_103 v_length_104 v_zeros_105 v_level_106 v_sum_107 v_tail_108 v_may_109 v_mocks_110 v_sumThen_111 v_bits_112 = some res → W p l e (rmK 5 124) s m ([.ref a_this] : List Value).toArray below meth c H locs 0 0 (MQ below (QG D (tyL cB cI cZ) A (fun res : Int32 × Int32 × Int32 × Int32 × Int32 × Int32 × Int32 × Int32 × Int32 × Int32 × Int32 × Int32 × Int32 × (Nat → Int32) × (Nat → Int32) × (Nat → Int32) × (Nat → Int32) × (Nat → Int32) × (Nat → Int32) × (Nat → Int32) × (Nat → Int32) × (Nat → Int32) × (Nat → Int32) => some (.int res.1)) (fun res : Int32 × Int32 × Int32 × Int32 × Int32 × Int32 × Int32 × Int32 × Int32 × Int32 × Int32 × Int32 × Int32 × (Nat → Int32) × (Nat → Int32) × (Nat → Int32) × (Nat → Int32) × (Nat → Int32) × (Nat → Int32) × (Nat → Int32) × (Nat → Int32) × (Nat → Int32) × (Nat → Int32) => (wX10_press cB cI cZ av a_this (res.2.2.2.2.2.2.2.2.2.2.2.1) v_size v_begins v_entries (res.2.2.1) (res.2.2.2.2.2.2.1) (res.2.2.2.2.2.2.2.1) (res.2.2.2.2.2.2.2.2.2.2.2.2.1) (res.2.2.2.1) (res.2.2.2.2.2.2.2.2.1) (res.2.2.2.2.2.2.2.2.2.2.1) (res.2.1) v_found v_strange v_innerFails v_outerFails v_mostMarks v_unsure (res.2.2.2.2.1) (res.2.2.2.2.2.1) (res.2.2.2.2.2.2.2.2.2.1) (res.2.2.2.2.2.2.2.2.2.2.2.2.2.1) (res.2.2.2.2.2.2.2.2.2.2.2.2.2.2.1) v_entryControl v_entryIndex v_entrySection v_entryTrack (res.2.2.2.2.2.2.2.2.2.2.2.2.2.2.2.1) v_logs (res.2.2.2.2.2.2.2.2.2.2.2.2.2.2.2.2.1) (res.2.2.2.2.2.2.2.2.2.2.2.2.2.2.2.2.2.1) (res.2.2.2.2.2.2.2.2.2.2.2.2.2.2.2.2.2.2.1) v_powers (res.2.2.2.2.2.2.2.2.2.2.2.2.2.2.2.2.2.2.2.1) v_stream (res.2.2.2.2.2.2.2.2.2.2.2.2.2.2.2.2.2.2.2.2.1) (res.2.2.2.2.2.2.2.2.2.2.2.2.2.2.2.2.2.2.2.2.2.1) (res.2.2.2.2.2.2.2.2.2.2.2.2.2.2.2.2.2.2.2.2.2.2) v_words)) res) ([.ref a_this] : List Value).toArray s 0 0 A) (F0 m 147 ls []) := by
                intro F
                induction F with
                | zero => intro x2_103 v_length_104 v_zeros_105 v_level_106 v_sum_107 v_tail_108 v_may_109 v_mocks_110 v_sumThen_111 v_bits_112 ls H locs hl hw h; rw [fX10_press_L147.eq_1] at h; cases h
                | succ F147_113 ih147_113 =>
                  intro x2_103 v_length_104 v_zeros_105 v_level_106 v_sum_107 v_tail_108 v_may_109 v_mocks_110 v_sumThen_111 v_bits_112 ls H locs hl hw h
                  rw [fX10_press_L147.eq_2] at h
                  refine lv_iload_n (pc := 147) hx hb dX10_press_147 rfl (lv_at hl 0 rfl) ?_
                  refine lv_bipush (pc := 148) (v := 32) hx hb dX10_press_148 (by decide) ?_
                  refine lv_icmp_ge (pc := 150) (tgt := 176) hx hb dX10_press_150 (by decide) (fun hc_114 => ?_) (fun hc_114 => ?_)
                  · have h := ift hc_114 h
                    exact J176_80 v_length_104 v_zeros_105 v_level_106 v_sum_107 v_tail_108 v_may_109 v_mocks_110 v_sumThen_111 v_bits_112 ls _ _ (lv_sub hl [1, 2] rfl) hw h
                  · have h := iff' hc_114 h
                    refine lv_aload_n (pc := 153) hx hb dX10_press_153 rfl (lv_at hl 2 rfl) ?_
                    refine lv_aload_n (pc := 154) hx hb dX10_press_154 rfl (lv_at hl 2 rfl) ?_
                    refine gf_X10_7 (pc := 155) C hw 0 rfl rfl dX10_press_155 ?_
                    refine lv_aload_n (pc := 158) hx hb dX10_press_158 rfl (lv_at hl 2 rfl) ?_
                    refine lv_iload_n (pc := 159) hx hb dX10_press_159 rfl (lv_at hl 1 rfl) ?_
                    refine lv_iload_n (pc := 160) hx hb dX10_press_160 rfl (lv_at hl 0 rfl) ?_
                    obtain ⟨r_115, hq_116, h⟩ := ob1_at h
                    refine x_callV (pc := 161) (rest := [.ref (av 1), .ref a_this]) (stk := [.int r_115, .ref (av 1), .ref a_this]) (wX10_press cB cI cZ av a_this 0 v_size v_begins v_entries v_length_104 v_pressed_3 v_streamFrames_2 v_zeros_105 v_level_106 v_sum_107 v_tail_108 0 v_found v_strange v_innerFails v_outerFails v_mostMarks v_unsure v_may_109 v_mocks_110 v_sumThen_111 v_bits_112 v_channel_59 v_entryControl v_entryIndex v_entrySection v_entryTrack v_inners_12 v_logs v_marked_13 v_outers_5 v_places_14 v_powers v_rows_15 v_stream v_syndromes_16 v_values_17 v_word_18 v_words) C hw (ct_X10_discByte l D cB cI cZ tw av a_this 0 v_size v_begins v_entries v_length_104 v_pressed_3 v_streamFrames_2 v_zeros_105 v_level_106 v_sum_107 v_tail_108 0 v_found v_strange v_innerFails v_outerFails v_mostMarks v_unsure v_may_109 v_mocks_110 v_sumThen_111 v_inners_12 x1_45 x2_103 r_115 hq_116) cal_X10_discByte tw_1326 (q0 := 0) rfl rfl [0, 7] [1, 2, 3, 4, 5, 6, 8, 9, 10, 11, 12, 13, 14, 15, 16, 17, 18] 19 [((av 13), .inl (cB, 360000, .inl v_bits_112)), ((av 21), .inl (cI, 96, .inl v_channel_59)), ((av 10), .inl (cI, 20, .inl v_entryControl)), ((av 12), .inl (cI, 20, .inl v_entryIndex)), ((av 9), .inl (cI, 20, .inl v_entrySection)), ((av 11), .inl (cI, 20, .inl v_entryTrack)), ((av 4), .inl (cI, 256, .inl v_logs)), ((av 23), .inl (cZ, 32, .inl v_marked_13)), ((av 31), .inl (cI, 17920, .inl v_outers_5)), ((av 25), .inl (cI, 4, .inl v_places_14)), ((av 3), .inl (cI, 512, .inl v_powers)), ((av 27), .inl (cI, 20, .inl v_rows_15)), ((av 5), .inl (cB, 11712, .inl v_stream)), ((av 24), .inl (cI, 4, .inl v_syndromes_16)), ((av 26), .inl (cI, 4, .inl v_values_17)), ((av 22), .inl (cI, 32, .inl v_word_18)), ((av 1), .inl (cI, 256, .inl v_words))] rfl rfl rfl rfl rfl rfl rfl rfl rfl rfl rfl (Nat.le_of_ble_eq_true rfl) hl.1 ⟨Nat.le_of_ble_eq_true rfl, Nat.le_of_ble_eq_true rfl⟩ ⟨Nat.zero_le _, Nat.zero_le _⟩ dX10_press_161 (fun H locs hw => ?_)
                    obtain ⟨hi_117, h⟩ := og_at h
                    refine x_iald (pc := 164) C hw 18 rfl hi_117 dX10_press_164 ?_
                    refine lv_bipush (pc := 165) (v := 14) hx hb dX10_press_165 (by decide) ?_
                    obtain ⟨v_length_118, v_level_119, v_may_120, v_mocks_121, v_sum_122, v_sumThen_123, v_tail_124, v_zeros_125, v_bits_126, hq_127, h⟩ := ob9_at h
                    refine x_callV (pc := 167) (rest := []) (stk := []) (wX10_press cB cI cZ av a_this 0 v_size v_begins v_entries v_length_118 v_pressed_3 v_streamFrames_2 v_zeros_125 v_level_119 v_sum_122 v_tail_124 0 v_found v_strange v_innerFails v_outerFails v_mostMarks v_unsure v_may_120 v_mocks_121 v_sumThen_123 v_bits_126 v_channel_59 v_entryControl v_entryIndex v_entrySection v_entryTrack v_inners_12 v_logs v_marked_13 v_outers_5 v_places_14 v_powers v_rows_15 v_stream v_syndromes_16 v_values_17 v_word_18 v_words) C hw (ct_X10_layWord l D cB cI cZ tw av a_this 0 v_size v_begins v_entries v_length_104 v_pressed_3 v_streamFrames_2 v_zeros_105 v_level_106 v_sum_107 v_tail_108 0 v_found v_strange v_innerFails v_outerFails v_mostMarks v_unsure v_may_109 v_mocks_110 v_sumThen_111 v_bits_112 (v_words (Int32.toNatClampNeg r_115)) 14 (v_length_118, v_level_119, v_may_120, v_mocks_121, v_sum_122, v_sumThen_123, v_tail_124, v_zeros_125, v_bits_126) hq_127) cal_X10_layWord tw_1314 (q0 := 0) rfl rfl [0, 1] [2, 3, 4, 5, 6, 7, 8, 9, 10, 11, 12, 13, 14, 15, 16, 17, 18] 19 [((av 21), .inl (cI, 96, .inl v_channel_59)), ((av 10), .inl (cI, 20, .inl v_entryControl)), ((av 12), .inl (cI, 20, .inl v_entryIndex)), ((av 9), .inl (cI, 20, .inl v_entrySection)), ((av 11), .inl (cI, 20, .inl v_entryTrack)), ((av 28), .inl (cI, 20480, .inl v_inners_12)), ((av 4), .inl (cI, 256, .inl v_logs)), ((av 23), .inl (cZ, 32, .inl v_marked_13)), ((av 31), .inl (cI, 17920, .inl v_outers_5)), ((av 25), .inl (cI, 4, .inl v_places_14)), ((av 3), .inl (cI, 512, .inl v_powers)), ((av 27), .inl (cI, 20, .inl v_rows_15)), ((av 5), .inl (cB, 11712, .inl v_stream)), ((av 24), .inl (cI, 4, .inl v_syndromes_16)), ((av 26), .inl (cI, 4, .inl v_values_17)), ((av 22), .inl (cI, 32, .inl v_word_18)), ((av 1), .inl (cI, 256, .inl v_words))] rfl rfl rfl rfl rfl rfl rfl rfl rfl rfl rfl (Nat.le_of_ble_eq_true rfl) hl.1 ⟨Nat.le_of_ble_eq_true rfl, Nat.le_of_ble_eq_true rfl⟩ ⟨Nat.zero_le _, Nat.zero_le _⟩ dX10_press_167 (fun H locs hw => ?_)
                    obtain ⟨x2_128, ex2_128⟩ : ∃ y : Int32, y = x2_103 + 1 := ⟨_, rfl⟩
                    have h := nm_at ex2_128 h
                    refine lv_iinc (pc := 170) (v := x2_128) (lv' := [(2, .int x2_128), (1, .int x1_45), (0, .ref a_this)]) hx hb dX10_press_170 hl (k := 0) rfl (by rw [ex2_128]; rfl) (by decide) rfl (fun ls hl => ?_)
                    refine lv_goto (pc := 173) (tgt := 147) hx hb dX10_press_173 (by decide) ?_
                    exact ih147_113 x2_128 v_length_118 v_zeros_125 v_level_119 v_sum_122 v_tail_124 v_may_120 v_mocks_121 v_sumThen_123 v_bits_126 ls _ _ (lv_sub hl [0, 1, 2] rfl) hw h
              exact Lih147_113 FU 0 v_length_61 v_zeros_68 v_level_62 v_sum_65 v_tail_67 v_may_63 v_mocks_64 v_sumThen_66 v_bits_69 ls _ _ (lv_sub hl [0, 1, 2] rfl) hw h
        exact Lih126_56 FU 0 v_length_20 v_zeros_24 v_level_21 v_sum_22 v_tail_23 v_may v_mocks v_sumThen v_bits_25 v_channel ls _ _ (lv_sub hl [0, 1] rfl) hw h
      have Lih77_137 : ∀ (F : Nat) (x1_129 : Int32) (v_inners_130 : Nat → Int32) (v_marked_131 : Nat → Int32) (v_places_132 : Nat → Int32) (v_rows_133 : Nat → Int32) (v_syndromes_134 : Nat → Int32) (v_values_135 : Nat → Int32) (v_word_136 : Nat → Int32) (ls : Array Slot) (H : Heap) (locs : List Loc), lv_has ls 3 [(1, .int x1_129), (0, .ref a_this)] → Wd D A s (wX10_press cB cI cZ av a_this 0 v_size v_begins v_entries 0 v_pressed_3 v_streamFrames_2 v_zeros v_level v_sum v_tail 0 v_found v_strange v_innerFails v_outerFails v_mostMarks v_unsure v_may v_mocks v_sumThen v_bits v_channel v_entryControl v_entryIndex v_entrySection v_entryTrack v_inners_130 v_logs v_marked_131 v_outers_5 v_places_132 v_powers v_rows_133 v_stream v_syndromes_134 v_values_135 v_word_136 v_words) H locs → fX10_press_L77 v_pressed_3 j96_19 v_logs v_outers_5 v_powers F x1_129 v_inners_130 v_marked_131 v_places_132 v_rows_133 v_syndromes_134 v_values_135 v_word_136 = some res → W p l e (rmK 5 124) s m ([.ref a_this] : List Value).toArray below meth c H locs 0 0 (MQ below (QG D (tyL cB cI cZ) A (fun res : Int32 × Int32 × Int32 × Int32 × Int32 × Int32 × Int32 × Int32 × Int32 × Int32 × Int32 × Int32 × Int32 × (Nat → Int32) × (Nat → Int32) × (Nat → Int32) × (Nat → Int32) × (Nat → Int32) × (Nat → Int32) × (Nat → Int32) × (Nat → Int32) × (Nat → Int32) × (Nat → Int32) => some (.int res.1)) (fun res : Int32 × Int32 × Int32 × Int32 × Int32 × Int32 × Int32 × Int32 × Int32 × Int32 × Int32 × Int32 × Int32 × (Nat → Int32) × (Nat → Int32) × (Nat → Int32) × (Nat → Int32) × (Nat → Int32) × (Nat → Int32) × (Nat → Int32) × (Nat → Int32) × (Nat → Int32) × (Nat → Int32) => (wX10_press cB cI cZ av a_this (res.2.2.2.2.2.2.2.2.2.2.2.1) v_size v_begins v_entries (res.2.2.1) (res.2.2.2.2.2.2.1) (res.2.2.2.2.2.2.2.1) (res.2.2.2.2.2.2.2.2.2.2.2.2.1) (res.2.2.2.1) (res.2.2.2.2.2.2.2.2.1) (res.2.2.2.2.2.2.2.2.2.2.1) (res.2.1) v_found v_strange v_innerFails v_outerFails v_mostMarks v_unsure (res.2.2.2.2.1) (res.2.2.2.2.2.1) (res.2.2.2.2.2.2.2.2.2.1) (res.2.2.2.2.2.2.2.2.2.2.2.2.2.1) (res.2.2.2.2.2.2.2.2.2.2.2.2.2.2.1) v_entryControl v_entryIndex v_entrySection v_entryTrack (res.2.2.2.2.2.2.2.2.2.2.2.2.2.2.2.1) v_logs (res.2.2.2.2.2.2.2.2.2.2.2.2.2.2.2.2.1) (res.2.2.2.2.2.2.2.2.2.2.2.2.2.2.2.2.2.1) (res.2.2.2.2.2.2.2.2.2.2.2.2.2.2.2.2.2.2.1) v_powers (res.2.2.2.2.2.2.2.2.2.2.2.2.2.2.2.2.2.2.2.1) v_stream (res.2.2.2.2.2.2.2.2.2.2.2.2.2.2.2.2.2.2.2.2.1) (res.2.2.2.2.2.2.2.2.2.2.2.2.2.2.2.2.2.2.2.2.2.1) (res.2.2.2.2.2.2.2.2.2.2.2.2.2.2.2.2.2.2.2.2.2.2) v_words)) res) ([.ref a_this] : List Value).toArray s 0 0 A) (F0 m 77 ls []) := by
        intro F
        induction F with
        | zero => intro x1_129 v_inners_130 v_marked_131 v_places_132 v_rows_133 v_syndromes_134 v_values_135 v_word_136 ls H locs hl hw h; rw [fX10_press_L77.eq_1] at h; cases h
        | succ F77_137 ih77_137 =>
          intro x1_129 v_inners_130 v_marked_131 v_places_132 v_rows_133 v_syndromes_134 v_values_135 v_word_136 ls H locs hl hw h
          rw [fX10_press_L77.eq_2] at h
          refine lv_iload_n (pc := 77) hx hb dX10_press_77 rfl (lv_at hl 0 rfl) ?_
          refine lv_aload_n (pc := 78) hx hb dX10_press_78 rfl (lv_at hl 1 rfl) ?_
          refine gf_X10_231 (pc := 79) C hw 0 rfl rfl dX10_press_79 ?_
          refine lv_icmp_ge (pc := 82) (tgt := 96) hx hb dX10_press_82 (by decide) (fun hc_138 => ?_) (fun hc_138 => ?_)
          · have h := ift hc_138 h
            exact J96_19 v_inners_130 v_marked_131 v_places_132 v_rows_133 v_syndromes_134 v_values_135 v_word_136 ls _ _ (lv_sub hl [1] rfl) hw h
          · have h := iff' hc_138 h
            refine lv_aload_n (pc := 85) hx hb dX10_press_85 rfl (lv_at hl 1 rfl) ?_
            refine lv_iload_n (pc := 86) hx hb dX10_press_86 rfl (lv_at hl 0 rfl) ?_
            obtain ⟨v_inners_139, v_marked_140, v_places_141, v_rows_142, v_syndromes_143, v_values_144, v_word_145, hq_146, h⟩ := ob7_at h
            refine x_callV (pc := 87) (rest := []) (stk := []) (wX10_press cB cI cZ av a_this 0 v_size v_begins v_entries 0 v_pressed_3 v_streamFrames_2 v_zeros v_level v_sum v_tail 0 v_found v_strange v_innerFails v_outerFails v_mostMarks v_unsure v_may v_mocks v_sumThen v_bits v_channel v_entryControl v_entryIndex v_entrySection v_entryTrack v_inners_139 v_logs v_marked_140 v_outers_5 v_places_141 v_powers v_rows_142 v_stream v_syndromes_143 v_values_144 v_word_145 v_words) C hw (ct_X10_makeInner l D cB cI cZ tw av a_this 0 v_size v_begins v_entries 0 v_pressed_3 v_streamFrames_2 v_zeros v_level v_sum v_tail 0 v_found v_strange v_innerFails v_outerFails v_mostMarks v_unsure v_may v_mocks v_sumThen v_inners_130 v_logs v_marked_131 v_outers_5 v_places_132 v_powers v_rows_133 v_syndromes_134 v_values_135 v_word_136 x1_129 (v_inners_139, v_marked_140, v_places_141, v_rows_142, v_syndromes_143, v_values_144, v_word_145) hq_146) cal_X10_makeInner tw_1268 (q0 := 0) rfl rfl [0, 7, 8, 9, 10, 11, 12, 13, 15, 16, 17] [1, 2, 3, 4, 5, 6, 14, 18] 19 [((av 13), .inl (cB, 360000, .inl v_bits)), ((av 21), .inl (cI, 96, .inl v_channel)), ((av 10), .inl (cI, 20, .inl v_entryControl)), ((av 12), .inl (cI, 20, .inl v_entryIndex)), ((av 9), .inl (cI, 20, .inl v_entrySection)), ((av 11), .inl (cI, 20, .inl v_entryTrack)), ((av 5), .inl (cB, 11712, .inl v_stream)), ((av 1), .inl (cI, 256, .inl v_words))] rfl rfl rfl rfl rfl rfl rfl rfl rfl rfl rfl (Nat.le_of_ble_eq_true rfl) hl.1 ⟨Nat.le_of_ble_eq_true rfl, Nat.le_of_ble_eq_true rfl⟩ ⟨Nat.zero_le _, Nat.zero_le _⟩ dX10_press_87 (fun H locs hw => ?_)
            obtain ⟨x1_147, ex1_147⟩ : ∃ y : Int32, y = x1_129 + 1 := ⟨_, rfl⟩
            have h := nm_at ex1_147 h
            refine lv_iinc (pc := 90) (v := x1_147) (lv' := [(1, .int x1_147), (0, .ref a_this)]) hx hb dX10_press_90 hl (k := 0) rfl (by rw [ex1_147]; rfl) (by decide) rfl (fun ls hl => ?_)
            refine lv_goto (pc := 93) (tgt := 77) hx hb dX10_press_93 (by decide) ?_
            exact ih77_137 x1_147 v_inners_139 v_marked_140 v_places_141 v_rows_142 v_syndromes_143 v_values_144 v_word_145 ls _ _ (lv_sub hl [0, 1] rfl) hw h
      exact Lih77_137 FU 0 v_inners v_marked_4 v_places_6 v_rows_7 v_syndromes_8 v_values_9 v_word_10 ls _ _ (lv_sub hl [0, 1] rfl) hw h
    have Lih56_156 : ∀ (F : Nat) (x1_148 : Int32) (v_marked_149 : Nat → Int32) (v_outers_150 : Nat → Int32) (v_places_151 : Nat → Int32) (v_rows_152 : Nat → Int32) (v_syndromes_153 : Nat → Int32) (v_values_154 : Nat → Int32) (v_word_155 : Nat → Int32) (ls : Array Slot) (H : Heap) (locs : List Loc), lv_has ls 3 [(1, .int x1_148), (0, .ref a_this)] → Wd D A s (wX10_press cB cI cZ av a_this 0 v_size v_begins v_entries 0 v_pressed_3 v_streamFrames_2 v_zeros v_level v_sum v_tail 0 v_found v_strange v_innerFails v_outerFails v_mostMarks v_unsure v_may v_mocks v_sumThen v_bits v_channel v_entryControl v_entryIndex v_entrySection v_entryTrack v_inners v_logs v_marked_149 v_outers_150 v_places_151 v_powers v_rows_152 v_stream v_syndromes_153 v_values_154 v_word_155 v_words) H locs → fX10_press_L56 v_pressed_3 j75_11 v_size v_streamFrames_2 v_logs v_powers v_stream F x1_148 v_marked_149 v_outers_150 v_places_151 v_rows_152 v_syndromes_153 v_values_154 v_word_155 = some res → W p l e (rmK 5 124) s m ([.ref a_this] : List Value).toArray below meth c H locs 0 0 (MQ below (QG D (tyL cB cI cZ) A (fun res : Int32 × Int32 × Int32 × Int32 × Int32 × Int32 × Int32 × Int32 × Int32 × Int32 × Int32 × Int32 × Int32 × (Nat → Int32) × (Nat → Int32) × (Nat → Int32) × (Nat → Int32) × (Nat → Int32) × (Nat → Int32) × (Nat → Int32) × (Nat → Int32) × (Nat → Int32) × (Nat → Int32) => some (.int res.1)) (fun res : Int32 × Int32 × Int32 × Int32 × Int32 × Int32 × Int32 × Int32 × Int32 × Int32 × Int32 × Int32 × Int32 × (Nat → Int32) × (Nat → Int32) × (Nat → Int32) × (Nat → Int32) × (Nat → Int32) × (Nat → Int32) × (Nat → Int32) × (Nat → Int32) × (Nat → Int32) × (Nat → Int32) => (wX10_press cB cI cZ av a_this (res.2.2.2.2.2.2.2.2.2.2.2.1) v_size v_begins v_entries (res.2.2.1) (res.2.2.2.2.2.2.1) (res.2.2.2.2.2.2.2.1) (res.2.2.2.2.2.2.2.2.2.2.2.2.1) (res.2.2.2.1) (res.2.2.2.2.2.2.2.2.1) (res.2.2.2.2.2.2.2.2.2.2.1) (res.2.1) v_found v_strange v_innerFails v_outerFails v_mostMarks v_unsure (res.2.2.2.2.1) (res.2.2.2.2.2.1) (res.2.2.2.2.2.2.2.2.2.1) (res.2.2.2.2.2.2.2.2.2.2.2.2.2.1) (res.2.2.2.2.2.2.2.2.2.2.2.2.2.2.1) v_entryControl v_entryIndex v_entrySection v_entryTrack (res.2.2.2.2.2.2.2.2.2.2.2.2.2.2.2.1) v_logs (res.2.2.2.2.2.2.2.2.2.2.2.2.2.2.2.2.1) (res.2.2.2.2.2.2.2.2.2.2.2.2.2.2.2.2.2.1) (res.2.2.2.2.2.2.2.2.2.2.2.2.2.2.2.2.2.2.1) v_powers (res.2.2.2.2.2.2.2.2.2.2.2.2.2.2.2.2.2.2.2.1) v_stream (res.2.2.2.2.2.2.2.2.2.2.2.2.2.2.2.2.2.2.2.2.1) (res.2.2.2.2.2.2.2.2.2.2.2.2.2.2.2.2.2.2.2.2.2.1) (res.2.2.2.2.2.2.2.2.2.2.2.2.2.2.2.2.2.2.2.2.2.2) v_words)) res) ([.ref a_this] : List Value).toArray s 0 0 A) (F0 m 56 ls []) := by
      intro F
      induction F with
      | zero => intro x1_148 v_marked_149 v_outers_150 v_places_151 v_rows_152 v_syndromes_153 v_values_154 v_word_155 ls H locs hl hw h; rw [fX10_press_L56.eq_1] at h; cases h
      | succ F56_156 ih56_156 =>
        intro x1_148 v_marked_149 v_outers_150 v_places_151 v_rows_152 v_syndromes_153 v_values_154 v_word_155 ls H locs hl hw h
        rw [fX10_press_L56.eq_2] at h
        refine lv_iload_n (pc := 56) hx hb dX10_press_56 rfl (lv_at hl 0 rfl) ?_
        refine lv_aload_n (pc := 57) hx hb dX10_press_57 rfl (lv_at hl 1 rfl) ?_
        refine gf_X10_231 (pc := 58) C hw 0 rfl rfl dX10_press_58 ?_
        refine lv_icmp_ge (pc := 61) (tgt := 75) hx hb dX10_press_61 (by decide) (fun hc_157 => ?_) (fun hc_157 => ?_)
        · have h := ift hc_157 h
          exact J75_11 v_marked_149 v_outers_150 v_places_151 v_rows_152 v_syndromes_153 v_values_154 v_word_155 ls _ _ (lv_sub hl [1] rfl) hw h
        · have h := iff' hc_157 h
          refine lv_aload_n (pc := 64) hx hb dX10_press_64 rfl (lv_at hl 1 rfl) ?_
          refine lv_iload_n (pc := 65) hx hb dX10_press_65 rfl (lv_at hl 0 rfl) ?_
          obtain ⟨v_marked_158, v_outers_159, v_places_160, v_rows_161, v_syndromes_162, v_values_163, v_word_164, hq_165, h⟩ := ob7_at h
          refine x_callV (pc := 66) (rest := []) (stk := []) (wX10_press cB cI cZ av a_this 0 v_size v_begins v_entries 0 v_pressed_3 v_streamFrames_2 v_zeros v_level v_sum v_tail 0 v_found v_strange v_innerFails v_outerFails v_mostMarks v_unsure v_may v_mocks v_sumThen v_bits v_channel v_entryControl v_entryIndex v_entrySection v_entryTrack v_inners v_logs v_marked_158 v_outers_159 v_places_160 v_powers v_rows_161 v_stream v_syndromes_162 v_values_163 v_word_164 v_words) C hw (ct_X10_makeOuter l D cB cI cZ tw av a_this 0 v_size v_begins v_entries 0 v_pressed_3 v_streamFrames_2 v_zeros v_level v_sum v_tail 0 v_found v_strange v_innerFails v_outerFails v_mostMarks v_unsure v_may v_mocks v_sumThen v_logs v_marked_149 v_outers_150 v_places_151 v_powers v_rows_152 v_stream v_syndromes_153 v_values_154 v_word_155 x1_148 (v_marked_158, v_outers_159, v_places_160, v_rows_161, v_syndromes_162, v_values_163, v_word_164) hq_165) cal_X10_makeOuter tw_1214 (q0 := 0) rfl rfl [0, 8, 9, 10, 11, 12, 13, 14, 15, 16, 17] [1, 2, 3, 4, 5, 6, 7, 18] 19 [((av 13), .inl (cB, 360000, .inl v_bits)), ((av 21), .inl (cI, 96, .inl v_channel)), ((av 10), .inl (cI, 20, .inl v_entryControl)), ((av 12), .inl (cI, 20, .inl v_entryIndex)), ((av 9), .inl (cI, 20, .inl v_entrySection)), ((av 11), .inl (cI, 20, .inl v_entryTrack)), ((av 28), .inl (cI, 20480, .inl v_inners)), ((av 1), .inl (cI, 256, .inl v_words))] rfl rfl rfl rfl rfl rfl rfl rfl rfl rfl rfl (Nat.le_of_ble_eq_true rfl) hl.1 ⟨Nat.le_of_ble_eq_true rfl, Nat.le_of_ble_eq_true rfl⟩ ⟨Nat.zero_le _, Nat.zero_le _⟩ dX10_press_66 (fun H locs hw => ?_)
          obtain ⟨x1_166, ex1_166⟩ : ∃ y : Int32, y = x1_148 + 1 := ⟨_, rfl⟩
          have h := nm_at ex1_166 h
          refine lv_iinc (pc := 69) (v := x1_166) (lv' := [(1, .int x1_166), (0, .ref a_this)]) hx hb dX10_press_69 hl (k := 0) rfl (by rw [ex1_166]; rfl) (by decide) rfl (fun ls hl => ?_)
          refine lv_goto (pc := 72) (tgt := 56) hx hb dX10_press_72 (by decide) ?_
          exact ih56_156 x1_166 v_marked_158 v_outers_159 v_places_160 v_rows_161 v_syndromes_162 v_values_163 v_word_164 ls _ _ (lv_sub hl [0, 1] rfl) hw h
    exact Lih56_156 FU 0 v_marked v_outers v_places v_rows v_syndromes v_values v_word ls _ _ (lv_sub hl [0, 1] rfl) hw h
  · have h := ift hc_1 h
    refine lv_iconst (pc := 27) (v := 0) hx hb dX10_press_27 (by decide) ?_
    exact x_iret (pc := 28) (v := (0, 0, 0, v_level, v_may, v_mocks, 0, v_streamFrames, v_sum, v_sumThen, v_tail, 0, v_zeros, v_bits, v_channel, v_inners, v_marked, v_outers, v_places, v_rows, v_syndromes, v_values, v_word)) C (Option.some.inj h) rfl hw dX10_press_28
def wX10_frames (cB cI cZ : ClassId) (av : Nat → Nat) (a_this : Nat) (v_thrown : Int32) (v_size : Int32) (v_begins : Int32) (v_entries : Int32) (v_length : Int32) (v_pressed : Int32) (v_streamFrames : Int32) (v_zeros : Int32) (v_level : Int32) (v_sum : Int32) (v_tail : Int32) (v_isPlayed : Int32) (v_found : Int32) (v_strange : Int32) (v_innerFails : Int32) (v_outerFails : Int32) (v_mostMarks : Int32) (v_unsure : Int32) (v_may : Int32) (v_mocks : Int32) (v_sumThen : Int32) : va_W := [oX10 a_this av v_thrown v_size v_begins v_entries v_length v_pressed v_streamFrames v_zeros v_level v_sum v_tail v_isPlayed v_found v_strange v_innerFails v_outerFails v_mostMarks v_unsure v_may v_mocks v_sumThen]
def fX10_frames (v_pressed : Int32) (v_thrown : Int32) : Int32 × Int32 := (v_pressed, 0)
set_option maxHeartbeats 4000000 in
set_option maxRecDepth 100000 in
theorem ct_X10_frames (l : Launch) (D : va_G) (cB cI cZ : ClassId) (tw : Nat) (av : Nat → Nat) (a_this : Nat) (v_thrown : Int32) (v_size : Int32) (v_begins : Int32) (v_entries : Int32) (v_length : Int32) (v_pressed : Int32) (v_streamFrames : Int32) (v_zeros : Int32) (v_level : Int32) (v_sum : Int32) (v_tail : Int32) (v_isPlayed : Int32) (v_found : Int32) (v_strange : Int32) (v_innerFails : Int32) (v_outerFails : Int32) (v_mostMarks : Int32) (v_unsure : Int32) (v_may : Int32) (v_mocks : Int32) (v_sumThen : Int32) (res : Int32 × Int32) (h : fX10_frames v_pressed v_thrown = res) : Ctr l yX10_frames cX10_frames 1 (some .int) (rmK 0 0) D (tyL cB cI cZ) tw [.ref a_this] (wX10_frames cB cI cZ av a_this v_thrown v_size v_begins v_entries v_length v_pressed v_streamFrames v_zeros v_level v_sum v_tail v_isPlayed v_found v_strange v_innerFails v_outerFails v_mostMarks v_unsure v_may v_mocks v_sumThen) (fun res : Int32 × Int32 => some (.int res.1)) (fun res : Int32 × Int32 => (wX10_frames cB cI cZ av a_this (res.2) v_size v_begins v_entries v_length v_pressed v_streamFrames v_zeros v_level v_sum v_tail v_isPlayed v_found v_strange v_innerFails v_outerFails v_mostMarks v_unsure v_may v_mocks v_sumThen)) res := by
  refine ctr_of RX10 (by decide) rfl (Nat.le_of_ble_eq_true rfl) ?_
  intro p e s m below meth c A C hw ls hl
  have hx := C.1
  have hb := C.2.1
  have hl : lv_has ls 1 [(0, .ref a_this)] := hl
  unfold fX10_frames at h
  refine lv_aload_n (pc := 0) hx hb dX10_frames_0 rfl (lv_at hl 0 rfl) ?_
  refine lv_iconst (pc := 1) (v := 0) hx hb dX10_frames_1 (by decide) ?_
  refine pf_X10_100 (pc := 2) (wX10_frames cB cI cZ av a_this 0 v_size v_begins v_entries v_length v_pressed v_streamFrames v_zeros v_level v_sum v_tail v_isPlayed v_found v_strange v_innerFails v_outerFails v_mostMarks v_unsure v_may v_mocks v_sumThen) C hw 0 rfl rfl rfl rfl (Nat.le_of_ble_eq_true rfl) dX10_frames_2 (fun H locs hw => ?_)
  refine lv_aload_n (pc := 5) hx hb dX10_frames_5 rfl (lv_at hl 0 rfl) ?_
  refine gf_X10_231 (pc := 6) C hw 0 rfl rfl dX10_frames_6 ?_
  exact x_iret (pc := 9) (v := (v_pressed, 0)) C h rfl hw dX10_frames_9
def wX10_length (cB cI cZ : ClassId) (av : Nat → Nat) (a_this : Nat) (v_thrown : Int32) (v_size : Int32) (v_begins : Int32) (v_entries : Int32) (v_length : Int32) (v_pressed : Int32) (v_streamFrames : Int32) (v_zeros : Int32) (v_level : Int32) (v_sum : Int32) (v_tail : Int32) (v_isPlayed : Int32) (v_found : Int32) (v_strange : Int32) (v_innerFails : Int32) (v_outerFails : Int32) (v_mostMarks : Int32) (v_unsure : Int32) (v_may : Int32) (v_mocks : Int32) (v_sumThen : Int32) : va_W := [oX10 a_this av v_thrown v_size v_begins v_entries v_length v_pressed v_streamFrames v_zeros v_level v_sum v_tail v_isPlayed v_found v_strange v_innerFails v_outerFails v_mostMarks v_unsure v_may v_mocks v_sumThen]
def fX10_length (v_length : Int32) (v_thrown : Int32) : Int32 × Int32 := (v_length, 0)
set_option maxHeartbeats 4000000 in
set_option maxRecDepth 100000 in
theorem ct_X10_length (l : Launch) (D : va_G) (cB cI cZ : ClassId) (tw : Nat) (av : Nat → Nat) (a_this : Nat) (v_thrown : Int32) (v_size : Int32) (v_begins : Int32) (v_entries : Int32) (v_length : Int32) (v_pressed : Int32) (v_streamFrames : Int32) (v_zeros : Int32) (v_level : Int32) (v_sum : Int32) (v_tail : Int32) (v_isPlayed : Int32) (v_found : Int32) (v_strange : Int32) (v_innerFails : Int32) (v_outerFails : Int32) (v_mostMarks : Int32) (v_unsure : Int32) (v_may : Int32) (v_mocks : Int32) (v_sumThen : Int32) (res : Int32 × Int32) (h : fX10_length v_length v_thrown = res) : Ctr l yX10_length cX10_length 1 (some .int) (rmK 0 0) D (tyL cB cI cZ) tw [.ref a_this] (wX10_length cB cI cZ av a_this v_thrown v_size v_begins v_entries v_length v_pressed v_streamFrames v_zeros v_level v_sum v_tail v_isPlayed v_found v_strange v_innerFails v_outerFails v_mostMarks v_unsure v_may v_mocks v_sumThen) (fun res : Int32 × Int32 => some (.int res.1)) (fun res : Int32 × Int32 => (wX10_length cB cI cZ av a_this (res.2) v_size v_begins v_entries v_length v_pressed v_streamFrames v_zeros v_level v_sum v_tail v_isPlayed v_found v_strange v_innerFails v_outerFails v_mostMarks v_unsure v_may v_mocks v_sumThen)) res := by
  refine ctr_of RX10 (by decide) rfl (Nat.le_of_ble_eq_true rfl) ?_
  intro p e s m below meth c A C hw ls hl
  have hx := C.1
  have hb := C.2.1
  have hl : lv_has ls 1 [(0, .ref a_this)] := hl
  unfold fX10_length at h
  refine lv_aload_n (pc := 0) hx hb dX10_length_0 rfl (lv_at hl 0 rfl) ?_
  refine lv_iconst (pc := 1) (v := 0) hx hb dX10_length_1 (by decide) ?_
  refine pf_X10_100 (pc := 2) (wX10_length cB cI cZ av a_this 0 v_size v_begins v_entries v_length v_pressed v_streamFrames v_zeros v_level v_sum v_tail v_isPlayed v_found v_strange v_innerFails v_outerFails v_mostMarks v_unsure v_may v_mocks v_sumThen) C hw 0 rfl rfl rfl rfl (Nat.le_of_ble_eq_true rfl) dX10_length_2 (fun H locs hw => ?_)
  refine lv_aload_n (pc := 5) hx hb dX10_length_5 rfl (lv_at hl 0 rfl) ?_
  refine gf_X10_185 (pc := 6) C hw 0 rfl rfl dX10_length_6 ?_
  exact x_iret (pc := 9) (v := (v_length, 0)) C h rfl hw dX10_length_9
def wX10_bit (cB cI cZ : ClassId) (av : Nat → Nat) (a_this : Nat) (v_thrown : Int32) (v_size : Int32) (v_begins : Int32) (v_entries : Int32) (v_length : Int32) (v_pressed : Int32) (v_streamFrames : Int32) (v_zeros : Int32) (v_level : Int32) (v_sum : Int32) (v_tail : Int32) (v_isPlayed : Int32) (v_found : Int32) (v_strange : Int32) (v_innerFails : Int32) (v_outerFails : Int32) (v_mostMarks : Int32) (v_unsure : Int32) (v_may : Int32) (v_mocks : Int32) (v_sumThen : Int32) (v_bits : Nat → Int32) : va_W := [oX10 a_this av v_thrown v_size v_begins v_entries v_length v_pressed v_streamFrames v_zeros v_level v_sum v_tail v_isPlayed v_found v_strange v_innerFails v_outerFails v_mostMarks v_unsure v_may v_mocks v_sumThen, ((av 13), .inl (cB, 360000, .inl v_bits))]
def fX10_bit (v_length : Int32) (v_bits : Nat → Int32) (x1 : Int32) : Option (Int32) := if x1 < 0 then some 0 else if v_length ≤ x1 then some 0 else og (ixb x1 360000) (some (v_bits (Int32.toNatClampNeg x1)))
set_option maxHeartbeats 4000000 in
set_option maxRecDepth 100000 in
theorem ct_X10_bit (l : Launch) (D : va_G) (cB cI cZ : ClassId) (tw : Nat) (av : Nat → Nat) (a_this : Nat) (v_thrown : Int32) (v_size : Int32) (v_begins : Int32) (v_entries : Int32) (v_length : Int32) (v_pressed : Int32) (v_streamFrames : Int32) (v_zeros : Int32) (v_level : Int32) (v_sum : Int32) (v_tail : Int32) (v_isPlayed : Int32) (v_found : Int32) (v_strange : Int32) (v_innerFails : Int32) (v_outerFails : Int32) (v_mostMarks : Int32) (v_unsure : Int32) (v_may : Int32) (v_mocks : Int32) (v_sumThen : Int32) (v_bits : Nat → Int32) (x1 : Int32) (res : Int32) (h : fX10_bit v_length v_bits x1 = some res) : Ctr l yX10_bit cX10_bit 2 (some .int) (rmK 0 0) D (tyL cB cI cZ) tw [.ref a_this, .int x1] (wX10_bit cB cI cZ av a_this v_thrown v_size v_begins v_entries v_length v_pressed v_streamFrames v_zeros v_level v_sum v_tail v_isPlayed v_found v_strange v_innerFails v_outerFails v_mostMarks v_unsure v_may v_mocks v_sumThen v_bits) (fun res : Int32 => some (.int res)) (fun res : Int32 => (wX10_bit cB cI cZ av a_this v_thrown v_size v_begins v_entries v_length v_pressed v_streamFrames v_zeros v_level v_sum v_tail v_isPlayed v_found v_strange v_innerFails v_outerFails v_mostMarks v_unsure v_may v_mocks v_sumThen v_bits)) res := by
  refine ctr_of RX10 (by decide) rfl (Nat.le_of_ble_eq_true rfl) ?_
  intro p e s m below meth c A C hw ls hl
  have hx := C.1
  have hb := C.2.1
  have hl : lv_has ls 2 [(0, .ref a_this), (1, .int x1)] := hl
  unfold fX10_bit at h
  refine lv_iload_n (pc := 0) hx hb dX10_bit_0 rfl (lv_at hl 1 rfl) ?_
  refine lv_if_lt (pc := 1) (tgt := 21) hx hb dX10_bit_1 (by decide) (fun hc_1 => ?_) (fun hc_1 => ?_)
  · have h := ift hc_1 h
    refine lv_iconst (pc := 21) (v := 0) hx hb dX10_bit_21 (by decide) ?_
    exact x_iret (pc := 22) (v := 0) C (Option.some.inj h) rfl hw dX10_bit_22
  · have h := iff' hc_1 h
    refine lv_iload_n (pc := 4) hx hb dX10_bit_4 rfl (lv_at hl 1 rfl) ?_
    refine lv_aload_n (pc := 5) hx hb dX10_bit_5 rfl (lv_at hl 0 rfl) ?_
    refine gf_X10_185 (pc := 6) C hw 0 rfl rfl dX10_bit_6 ?_
    refine lv_icmp_ge (pc := 9) (tgt := 21) hx hb dX10_bit_9 (by decide) (fun hc_2 => ?_) (fun hc_2 => ?_)
    · have h := ift hc_2 h
      refine lv_iconst (pc := 21) (v := 0) hx hb dX10_bit_21 (by decide) ?_
      exact x_iret (pc := 22) (v := 0) C (Option.some.inj h) rfl hw dX10_bit_22
    · have h := iff' hc_2 h
      refine lv_aload_n (pc := 12) hx hb dX10_bit_12 rfl (lv_at hl 0 rfl) ?_
      refine gf_X10_39 (pc := 13) C hw 0 rfl rfl dX10_bit_13 ?_
      refine lv_iload_n (pc := 16) hx hb dX10_bit_16 rfl (lv_at hl 1 rfl) ?_
      obtain ⟨hi_3, h⟩ := og_at h
      refine x_bald (pc := 17) C hw 1 rfl hi_3 dX10_bit_17 ?_
      refine lv_goto (pc := 18) (tgt := 22) hx hb dX10_bit_18 (by decide) ?_
      exact x_iret (pc := 22) (v := (v_bits (Int32.toNatClampNeg x1))) C (Option.some.inj h) rfl hw dX10_bit_22
def wX10_taken (cB cI cZ : ClassId) (av : Nat → Nat) (a_this : Nat) (v_thrown : Int32) (v_size : Int32) (v_begins : Int32) (v_entries : Int32) (v_length : Int32) (v_pressed : Int32) (v_streamFrames : Int32) (v_zeros : Int32) (v_level : Int32) (v_sum : Int32) (v_tail : Int32) (v_isPlayed : Int32) (v_found : Int32) (v_strange : Int32) (v_innerFails : Int32) (v_outerFails : Int32) (v_mostMarks : Int32) (v_unsure : Int32) (v_may : Int32) (v_mocks : Int32) (v_sumThen : Int32) (v_bits : Nat → Int32) : va_W := [oX10 a_this av v_thrown v_size v_begins v_entries v_length v_pressed v_streamFrames v_zeros v_level v_sum v_tail v_isPlayed v_found v_strange v_innerFails v_outerFails v_mostMarks v_unsure v_may v_mocks v_sumThen, ((av 13), .inl (cB, 360000, .inl v_bits))]
def fX10_taken_L5 (x2 : Int32) (v_length : Int32) (v_bits : Nat → Int32) (x1 : Int32) : Nat → Int32 → Int32 → Option (Int32)
  | 0, _, _ => none
  | F5_3 + 1, x4_1, x3_2 => if x2 ≤ x4_1 then some x3_2 else ob1 (fX10_bit v_length v_bits (x1 + x4_1)) fun r_5 => nm (((x3_2 <<< ((1 : Int32) &&& 31) : Int32) ||| r_5) : Int32) fun x3_7 => nm (x4_1 + 1 : Int32) fun x4_8 => fX10_taken_L5 x2 v_length v_bits x1 F5_3 x4_8 x3_7
def fX10_taken (v_length : Int32) (v_bits : Nat → Int32) (x1 : Int32) (x2 : Int32) : Option (Int32) := fX10_taken_L5 x2 v_length v_bits x1 FU 0 0
set_option maxHeartbeats 4000000 in
set_option maxRecDepth 100000 in
theorem ct_X10_taken (l : Launch) (D : va_G) (cB cI cZ : ClassId) (tw : Nat) (av : Nat → Nat) (a_this : Nat) (v_thrown : Int32) (v_size : Int32) (v_begins : Int32) (v_entries : Int32) (v_length : Int32) (v_pressed : Int32) (v_streamFrames : Int32) (v_zeros : Int32) (v_level : Int32) (v_sum : Int32) (v_tail : Int32) (v_isPlayed : Int32) (v_found : Int32) (v_strange : Int32) (v_innerFails : Int32) (v_outerFails : Int32) (v_mostMarks : Int32) (v_unsure : Int32) (v_may : Int32) (v_mocks : Int32) (v_sumThen : Int32) (v_bits : Nat → Int32) (x1 : Int32) (x2 : Int32) (res : Int32) (h : fX10_taken v_length v_bits x1 x2 = some res) : Ctr l yX10_taken cX10_taken 5 (some .int) (rmK 1 21) D (tyL cB cI cZ) tw [.ref a_this, .int x1, .int x2] (wX10_taken cB cI cZ av a_this v_thrown v_size v_begins v_entries v_length v_pressed v_streamFrames v_zeros v_level v_sum v_tail v_isPlayed v_found v_strange v_innerFails v_outerFails v_mostMarks v_unsure v_may v_mocks v_sumThen v_bits) (fun res : Int32 => some (.int res)) (fun res : Int32 => (wX10_taken cB cI cZ av a_this v_thrown v_size v_begins v_entries v_length v_pressed v_streamFrames v_zeros v_level v_sum v_tail v_isPlayed v_found v_strange v_innerFails v_outerFails v_mostMarks v_unsure v_may v_mocks v_sumThen v_bits)) res := by
  refine ctr_of RX10 (by decide) rfl (Nat.le_of_ble_eq_true rfl) ?_
  intro p e s m below meth c A C hw ls hl
  have hx := C.1
  have hb := C.2.1
  have hl : lv_has ls 5 [(0, .ref a_this), (1, .int x1), (2, .int x2)] := hl
  unfold fX10_taken at h
  refine lv_iconst (pc := 0) (v := 0) hx hb dX10_taken_0 (by decide) ?_
  refine lv_istore_n (pc := 1) (lv' := [(3, .int 0), (0, .ref a_this), (1, .int x1), (2, .int x2)]) hx hb dX10_taken_1 rfl hl (by decide) rfl (fun ls hl => ?_)
  refine lv_iconst (pc := 2) (v := 0) hx hb dX10_taken_2 (by decide) ?_
  refine lv_istore (pc := 3) (lv' := [(4, .int 0), (3, .int 0), (0, .ref a_this), (1, .int x1), (2, .int x2)]) hx hb dX10_taken_3 hl (by decide) rfl (fun ls hl => ?_)
  have Lih5_3 : ∀ (F : Nat) (x4_1 : Int32) (x3_2 : Int32) (ls : Array Slot) (H : Heap) (locs : List Loc), lv_has ls 5 [(4, .int x4_1), (3, .int x3_2), (0, .ref a_this), (1, .int x1), (2, .int x2)] → Wd D A s (wX10_taken cB cI cZ av a_this v_thrown v_size v_begins v_entries v_length v_pressed v_streamFrames v_zeros v_level v_sum v_tail v_isPlayed v_found v_strange v_innerFails v_outerFails v_mostMarks v_unsure v_may v_mocks v_sumThen v_bits) H locs → fX10_taken_L5 x2 v_length v_bits x1 F x4_1 x3_2 = some res → W p l e (rmK 1 21) s m ([.ref a_this, .int x1, .int x2] : List Value).toArray below meth c H locs 0 0 (MQ below (QG D (tyL cB cI cZ) A (fun res : Int32 => some (.int res)) (fun res : Int32 => (wX10_taken cB cI cZ av a_this v_thrown v_size v_begins v_entries v_length v_pressed v_streamFrames v_zeros v_level v_sum v_tail v_isPlayed v_found v_strange v_innerFails v_outerFails v_mostMarks v_unsure v_may v_mocks v_sumThen v_bits)) res) ([.ref a_this, .int x1, .int x2] : List Value).toArray s 0 0 A) (F0 m 5 ls []) := by
    intro F
    induction F with
    | zero => intro x4_1 x3_2 ls H locs hl hw h; rw [fX10_taken_L5.eq_1] at h; cases h
    | succ F5_3 ih5_3 =>
      intro x4_1 x3_2 ls H locs hl hw h
      rw [fX10_taken_L5.eq_2] at h
      refine lv_iload (pc := 5) hx hb dX10_taken_5 (lv_at hl 0 rfl) ?_
      refine lv_iload_n (pc := 7) hx hb dX10_taken_7 rfl (lv_at hl 4 rfl) ?_
      refine lv_icmp_ge (pc := 8) (tgt := 30) hx hb dX10_taken_8 (by decide) (fun hc_4 => ?_) (fun hc_4 => ?_)
      · have h := ift hc_4 h
        refine lv_iload_n (pc := 30) hx hb dX10_taken_30 rfl (lv_at hl 1 rfl) ?_
        exact x_iret (pc := 31) (v := x3_2) C (Option.some.inj h) rfl hw dX10_taken_31
      · have h := iff' hc_4 h
        refine lv_iload_n (pc := 11) hx hb dX10_taken_11 rfl (lv_at hl 1 rfl) ?_
        refine lv_iconst (pc := 12) (v := 1) hx hb dX10_taken_12 (by decide) ?_
        refine lv_ishl (pc := 13) hx hb dX10_taken_13 ?_
        refine lv_aload_n (pc := 14) hx hb dX10_taken_14 rfl (lv_at hl 2 rfl) ?_
        refine lv_iload_n (pc := 15) hx hb dX10_taken_15 rfl (lv_at hl 3 rfl) ?_
        refine lv_iload (pc := 16) hx hb dX10_taken_16 (lv_at hl 0 rfl) ?_
        refine lv_iadd (pc := 18) hx hb dX10_taken_18 ?_
        obtain ⟨r_5, hq_6, h⟩ := ob1_at h
        refine x_callV (pc := 19) (rest := [.int (x3_2 <<< ((1 : Int32) &&& 31) : Int32)]) (stk := [.int r_5, .int (x3_2 <<< ((1 : Int32) &&& 31) : Int32)]) (wX10_taken cB cI cZ av a_this v_thrown v_size v_begins v_entries v_length v_pressed v_streamFrames v_zeros v_level v_sum v_tail v_isPlayed v_found v_strange v_innerFails v_outerFails v_mostMarks v_unsure v_may v_mocks v_sumThen v_bits) C hw (ct_X10_bit l D cB cI cZ tw av a_this v_thrown v_size v_begins v_entries v_length v_pressed v_streamFrames v_zeros v_level v_sum v_tail v_isPlayed v_found v_strange v_innerFails v_outerFails v_mostMarks v_unsure v_may v_mocks v_sumThen v_bits (x1 + x4_1) r_5 hq_6) cal_X10_bit tw_1349 (q0 := 0) rfl rfl [0, 1] [] 2 [] rfl rfl rfl rfl rfl rfl rfl rfl rfl rfl rfl (Nat.le_of_ble_eq_true rfl) hl.1 ⟨Nat.le_of_ble_eq_true rfl, Nat.le_of_ble_eq_true rfl⟩ ⟨Nat.zero_le _, Nat.zero_le _⟩ dX10_taken_19 (fun H locs hw => ?_)
        refine lv_ior (pc := 22) hx hb dX10_taken_22 ?_
        refine lv_topi (pc := 23) (fun x3_7 ex3_7 => ?_)
        have h := nm_at ex3_7 h
        refine lv_istore_n (pc := 23) (lv' := [(3, .int x3_7), (4, .int x4_1), (0, .ref a_this), (1, .int x1), (2, .int x2)]) hx hb dX10_taken_23 rfl hl (by decide) rfl (fun ls hl => ?_)
        obtain ⟨x4_8, ex4_8⟩ : ∃ y : Int32, y = x4_1 + 1 := ⟨_, rfl⟩
        have h := nm_at ex4_8 h
        refine lv_iinc (pc := 24) (v := x4_8) (lv' := [(4, .int x4_8), (3, .int x3_7), (0, .ref a_this), (1, .int x1), (2, .int x2)]) hx hb dX10_taken_24 hl (k := 1) rfl (by rw [ex4_8]; rfl) (by decide) rfl (fun ls hl => ?_)
        refine lv_goto (pc := 27) (tgt := 5) hx hb dX10_taken_27 (by decide) ?_
        exact ih5_3 x4_8 x3_7 ls _ _ (lv_sub hl [0, 1, 2, 3, 4] rfl) hw h
  exact Lih5_3 FU 0 0 ls _ _ (lv_sub hl [0, 1, 2, 3, 4] rfl) hw h
