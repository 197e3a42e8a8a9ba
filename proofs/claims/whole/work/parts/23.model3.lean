def wX10_bits (cB cI cZ : ClassId) (av : Nat → Nat) (a_this : Nat) (v_thrown : Int32) (v_size : Int32) (v_begins : Int32) (v_entries : Int32) (v_length : Int32) (v_pressed : Int32) (v_streamFrames : Int32) (v_zeros : Int32) (v_level : Int32) (v_sum : Int32) (v_tail : Int32) (v_isPlayed : Int32) (v_found : Int32) (v_strange : Int32) (v_innerFails : Int32) (v_outerFails : Int32) (v_mostMarks : Int32) (v_unsure : Int32) (v_may : Int32) (v_mocks : Int32) (v_sumThen : Int32) (v_bits : Nat → Int32) : va_W := [oX10 a_this av v_thrown v_size v_begins v_entries v_length v_pressed v_streamFrames v_zeros v_level v_sum v_tail v_isPlayed v_found v_strange v_innerFails v_outerFails v_mostMarks v_unsure v_may v_mocks v_sumThen, ((av 13), .inl (cB, 360000, .inl v_bits))]
def fX10_bits (v_length : Int32) (v_thrown : Int32) (v_bits : Nat → Int32) (x1 : Int32) : Option (Int32 × Int32) := nt1 (fX10_in (Int32.toInt64 x1) 0 (Int32.toInt64 (v_length - (1 : Int32)))) fun r_1 => if r_1 = 0 then some (0, 0) else ob1 (fX10_taken v_length v_bits x1 32) fun r_4 => some (r_4, 0)
set_option maxHeartbeats 4000000 in
set_option maxRecDepth 100000 in
theorem ct_X10_bits (l : Launch) (D : va_G) (cB cI cZ : ClassId) (tw : Nat) (av : Nat → Nat) (a_this : Nat) (v_thrown : Int32) (v_size : Int32) (v_begins : Int32) (v_entries : Int32) (v_length : Int32) (v_pressed : Int32) (v_streamFrames : Int32) (v_zeros : Int32) (v_level : Int32) (v_sum : Int32) (v_tail : Int32) (v_isPlayed : Int32) (v_found : Int32) (v_strange : Int32) (v_innerFails : Int32) (v_outerFails : Int32) (v_mostMarks : Int32) (v_unsure : Int32) (v_may : Int32) (v_mocks : Int32) (v_sumThen : Int32) (v_bits : Nat → Int32) (x1 : Int32) (res : Int32 × Int32) (h : fX10_bits v_length v_thrown v_bits x1 = some res) : Ctr l yX10_bits cX10_bits 2 (some .int) (rmK 2 45) D (tyL cB cI cZ) tw [.ref a_this, .int x1] (wX10_bits cB cI cZ av a_this v_thrown v_size v_begins v_entries v_length v_pressed v_streamFrames v_zeros v_level v_sum v_tail v_isPlayed v_found v_strange v_innerFails v_outerFails v_mostMarks v_unsure v_may v_mocks v_sumThen v_bits) (fun res : Int32 × Int32 => some (.int res.1)) (fun res : Int32 × Int32 => (wX10_bits cB cI cZ av a_this (res.2) v_size v_begins v_entries v_length v_pressed v_streamFrames v_zeros v_level v_sum v_tail v_isPlayed v_found v_strange v_innerFails v_outerFails v_mostMarks v_unsure v_may v_mocks v_sumThen v_bits)) res := by
  refine ctr_of RX10 (by decide) rfl (Nat.le_of_ble_eq_true rfl) ?_
  intro p e s m below meth c A C hw ls hl
  have hx := C.1
  have hb := C.2.1
  have hl : lv_has ls 2 [(0, .ref a_this), (1, .int x1)] := hl
  unfold fX10_bits at h
  refine lv_aload_n (pc := 0) hx hb dX10_bits_0 rfl (lv_at hl 0 rfl) ?_
  refine lv_iconst (pc := 1) (v := 0) hx hb dX10_bits_1 (by decide) ?_
  refine pf_X10_100 (pc := 2) (wX10_bits cB cI cZ av a_this 0 v_size v_begins v_entries v_length v_pressed v_streamFrames v_zeros v_level v_sum v_tail v_isPlayed v_found v_strange v_innerFails v_outerFails v_mostMarks v_unsure v_may v_mocks v_sumThen v_bits) C hw 0 rfl rfl rfl rfl (Nat.le_of_ble_eq_true rfl) dX10_bits_2 (fun H locs hw => ?_)
  refine lv_iload_n (pc := 5) hx hb dX10_bits_5 rfl (lv_at hl 1 rfl) ?_
  refine lv_i2l (pc := 6) hx hb dX10_bits_6 rfl ?_
  refine lv_lconst (pc := 7) (v := 0) hx hb dX10_bits_7 (by decide) ?_
  refine lv_aload_n (pc := 8) hx hb dX10_bits_8 rfl (lv_at hl 0 rfl) ?_
  refine gf_X10_185 (pc := 9) C hw 0 rfl rfl dX10_bits_9 ?_
  refine lv_iconst (pc := 12) (v := 1) hx hb dX10_bits_12 (by decide) ?_
  refine lv_isub (pc := 13) hx hb dX10_bits_13 ?_
  refine lv_i2l (pc := 14) hx hb dX10_bits_14 rfl ?_
  obtain ⟨r_1, hq_2, h⟩ := nt1_at h
  refine x_callS (pc := 15) (rest := []) (stk := [.int r_1]) (wX10_bits cB cI cZ av a_this 0 v_size v_begins v_entries v_length v_pressed v_streamFrames v_zeros v_level v_sum v_tail v_isPlayed v_found v_strange v_innerFails v_outerFails v_mostMarks v_unsure v_may v_mocks v_sumThen v_bits) C hw (ct_X10_in l D cB cI cZ tw av (Int32.toInt64 x1) 0 (Int32.toInt64 (v_length - (1 : Int32))) r_1 hq_2.symm) cal_X10_in tw_1176 [] [0, 1] 2 [oX10 a_this av 0 v_size v_begins v_entries v_length v_pressed v_streamFrames v_zeros v_level v_sum v_tail v_isPlayed v_found v_strange v_innerFails v_outerFails v_mostMarks v_unsure v_may v_mocks v_sumThen, ((av 13), .inl (cB, 360000, .inl v_bits))] rfl rfl rfl rfl rfl rfl rfl rfl rfl rfl rfl (Nat.le_of_ble_eq_true rfl) hl.1 ⟨Nat.le_of_ble_eq_true rfl, Nat.le_of_ble_eq_true rfl⟩ ⟨Nat.zero_le _, Nat.zero_le _⟩ dX10_bits_15 (fun H locs hw => ?_)
  refine lv_if_eq (pc := 18) (tgt := 31) hx hb dX10_bits_18 (by decide) (fun hc_3 => ?_) (fun hc_3 => ?_)
  · have h := ift hc_3 h
    refine lv_iconst (pc := 31) (v := 0) hx hb dX10_bits_31 (by decide) ?_
    exact x_iret (pc := 32) (v := (0, 0)) C (Option.some.inj h) rfl hw dX10_bits_32
  · have h := iff' hc_3 h
    refine lv_aload_n (pc := 21) hx hb dX10_bits_21 rfl (lv_at hl 0 rfl) ?_
    refine lv_iload_n (pc := 22) hx hb dX10_bits_22 rfl (lv_at hl 1 rfl) ?_
    refine lv_bipush (pc := 23) (v := 32) hx hb dX10_bits_23 (by decide) ?_
    obtain ⟨r_4, hq_5, h⟩ := ob1_at h
    refine x_callV (pc := 25) (rest := []) (stk := [.int r_4]) (wX10_bits cB cI cZ av a_this 0 v_size v_begins v_entries v_length v_pressed v_streamFrames v_zeros v_level v_sum v_tail v_isPlayed v_found v_strange v_innerFails v_outerFails v_mostMarks v_unsure v_may v_mocks v_sumThen v_bits) C hw (ct_X10_taken l D cB cI cZ tw av a_this 0 v_size v_begins v_entries v_length v_pressed v_streamFrames v_zeros v_level v_sum v_tail v_isPlayed v_found v_strange v_innerFails v_outerFails v_mostMarks v_unsure v_may v_mocks v_sumThen v_bits x1 32 r_4 hq_5) cal_X10_taken tw_1345 (q0 := 0) rfl rfl [0, 1] [] 2 [] rfl rfl rfl rfl rfl rfl rfl rfl rfl rfl rfl (Nat.le_of_ble_eq_true rfl) hl.1 ⟨Nat.le_of_ble_eq_true rfl, Nat.le_of_ble_eq_true rfl⟩ ⟨Nat.zero_le _, Nat.zero_le _⟩ dX10_bits_25 (fun H locs hw => ?_)
    refine lv_goto (pc := 28) (tgt := 32) hx hb dX10_bits_28 (by decide) ?_
    exact x_iret (pc := 32) (v := (r_4, 0)) C (Option.some.inj h) rfl hw dX10_bits_32
def wX10_word (cB cI cZ : ClassId) (av : Nat → Nat) (a_this : Nat) (v_thrown : Int32) (v_size : Int32) (v_begins : Int32) (v_entries : Int32) (v_length : Int32) (v_pressed : Int32) (v_streamFrames : Int32) (v_zeros : Int32) (v_level : Int32) (v_sum : Int32) (v_tail : Int32) (v_isPlayed : Int32) (v_found : Int32) (v_strange : Int32) (v_innerFails : Int32) (v_outerFails : Int32) (v_mostMarks : Int32) (v_unsure : Int32) (v_may : Int32) (v_mocks : Int32) (v_sumThen : Int32) (v_bits : Nat → Int32) : va_W := [oX10 a_this av v_thrown v_size v_begins v_entries v_length v_pressed v_streamFrames v_zeros v_level v_sum v_tail v_isPlayed v_found v_strange v_innerFails v_outerFails v_mostMarks v_unsure v_may v_mocks v_sumThen, ((av 13), .inl (cB, 360000, .inl v_bits))]
def fX10_word (v_length : Int32) (v_pressed : Int32) (v_thrown : Int32) (v_bits : Nat → Int32) (x1 : Int32) (x2 : Int32) : Option (Int32 × Int32) := nt1 (fX10_in (Int32.toInt64 x1) 0 (Int32.toInt64 (v_pressed - (1 : Int32)))) fun r_1 => if r_1 = 0 then some ((-1), 0) else nt1 (fX10_in (Int32.toInt64 x2) 0 32) fun r_4 => if r_4 = 0 then some ((-1), 0) else ob1 (fX10_taken v_length v_bits ((((588 : Int32) * x1) + (27 : Int32)) + ((17 : Int32) * x2)) 14) fun r_7 => some (r_7, 0)
set_option maxHeartbeats 4000000 in
set_option maxRecDepth 100000 in
theorem ct_X10_word (l : Launch) (D : va_G) (cB cI cZ : ClassId) (tw : Nat) (av : Nat → Nat) (a_this : Nat) (v_thrown : Int32) (v_size : Int32) (v_begins : Int32) (v_entries : Int32) (v_length : Int32) (v_pressed : Int32) (v_streamFrames : Int32) (v_zeros : Int32) (v_level : Int32) (v_sum : Int32) (v_tail : Int32) (v_isPlayed : Int32) (v_found : Int32) (v_strange : Int32) (v_innerFails : Int32) (v_outerFails : Int32) (v_mostMarks : Int32) (v_unsure : Int32) (v_may : Int32) (v_mocks : Int32) (v_sumThen : Int32) (v_bits : Nat → Int32) (x1 : Int32) (x2 : Int32) (res : Int32 × Int32) (h : fX10_word v_length v_pressed v_thrown v_bits x1 x2 = some res) : Ctr l yX10_word cX10_word 3 (some .int) (rmK 2 45) D (tyL cB cI cZ) tw [.ref a_this, .int x1, .int x2] (wX10_word cB cI cZ av a_this v_thrown v_size v_begins v_entries v_length v_pressed v_streamFrames v_zeros v_level v_sum v_tail v_isPlayed v_found v_strange v_innerFails v_outerFails v_mostMarks v_unsure v_may v_mocks v_sumThen v_bits) (fun res : Int32 × Int32 => some (.int res.1)) (fun res : Int32 × Int32 => (wX10_word cB cI cZ av a_this (res.2) v_size v_begins v_entries v_length v_pressed v_streamFrames v_zeros v_level v_sum v_tail v_isPlayed v_found v_strange v_innerFails v_outerFails v_mostMarks v_unsure v_may v_mocks v_sumThen v_bits)) res := by
  refine ctr_of RX10 (by decide) rfl (Nat.le_of_ble_eq_true rfl) ?_
  intro p e s m below meth c A C hw ls hl
  have hx := C.1
  have hb := C.2.1
  have hl : lv_has ls 3 [(0, .ref a_this), (1, .int x1), (2, .int x2)] := hl
  unfold fX10_word at h
  refine lv_aload_n (pc := 0) hx hb dX10_word_0 rfl (lv_at hl 0 rfl) ?_
  refine lv_iconst (pc := 1) (v := 0) hx hb dX10_word_1 (by decide) ?_
  refine pf_X10_100 (pc := 2) (wX10_word cB cI cZ av a_this 0 v_size v_begins v_entries v_length v_pressed v_streamFrames v_zeros v_level v_sum v_tail v_isPlayed v_found v_strange v_innerFails v_outerFails v_mostMarks v_unsure v_may v_mocks v_sumThen v_bits) C hw 0 rfl rfl rfl rfl (Nat.le_of_ble_eq_true rfl) dX10_word_2 (fun H locs hw => ?_)
  refine lv_iload_n (pc := 5) hx hb dX10_word_5 rfl (lv_at hl 1 rfl) ?_
  refine lv_i2l (pc := 6) hx hb dX10_word_6 rfl ?_
  refine lv_lconst (pc := 7) (v := 0) hx hb dX10_word_7 (by decide) ?_
  refine lv_aload_n (pc := 8) hx hb dX10_word_8 rfl (lv_at hl 0 rfl) ?_
  refine gf_X10_231 (pc := 9) C hw 0 rfl rfl dX10_word_9 ?_
  refine lv_iconst (pc := 12) (v := 1) hx hb dX10_word_12 (by decide) ?_
  refine lv_isub (pc := 13) hx hb dX10_word_13 ?_
  refine lv_i2l (pc := 14) hx hb dX10_word_14 rfl ?_
  obtain ⟨r_1, hq_2, h⟩ := nt1_at h
  refine x_callS (pc := 15) (rest := []) (stk := [.int r_1]) (wX10_word cB cI cZ av a_this 0 v_size v_begins v_entries v_length v_pressed v_streamFrames v_zeros v_level v_sum v_tail v_isPlayed v_found v_strange v_innerFails v_outerFails v_mostMarks v_unsure v_may v_mocks v_sumThen v_bits) C hw (ct_X10_in l D cB cI cZ tw av (Int32.toInt64 x1) 0 (Int32.toInt64 (v_pressed - (1 : Int32))) r_1 hq_2.symm) cal_X10_in tw_1176 [] [0, 1] 2 [oX10 a_this av 0 v_size v_begins v_entries v_length v_pressed v_streamFrames v_zeros v_level v_sum v_tail v_isPlayed v_found v_strange v_innerFails v_outerFails v_mostMarks v_unsure v_may v_mocks v_sumThen, ((av 13), .inl (cB, 360000, .inl v_bits))] rfl rfl rfl rfl rfl rfl rfl rfl rfl rfl rfl (Nat.le_of_ble_eq_true rfl) hl.1 ⟨Nat.le_of_ble_eq_true rfl, Nat.le_of_ble_eq_true rfl⟩ ⟨Nat.zero_le _, Nat.zero_le _⟩ dX10_word_15 (fun H locs hw => ?_)
  refine lv_if_eq (pc := 18) (tgt := 55) hx hb dX10_word_18 (by decide) (fun hc_3 => ?_) (fun hc_3 => ?_)
  · have h := ift hc_3 h
    refine lv_iconst (pc := 55) (v := (-1)) hx hb dX10_word_55 (by decide) ?_
    exact x_iret (pc := 56) (v := ((-1), 0)) C (Option.some.inj h) rfl hw dX10_word_56
  · have h := iff' hc_3 h
    refine lv_iload_n (pc := 21) hx hb dX10_word_21 rfl (lv_at hl 2 rfl) ?_
    refine lv_i2l (pc := 22) hx hb dX10_word_22 rfl ?_
    refine lv_lconst (pc := 23) (v := 0) hx hb dX10_word_23 (by decide) ?_
    refine lv_ldc2 (pc := 24) (own := RX10) (v := 32) hx hb C.2.2.2.1 (C.2.2.2.2.1 _ tw_1357) dX10_word_24 ?_
    obtain ⟨r_4, hq_5, h⟩ := nt1_at h
    refine x_callS (pc := 27) (rest := []) (stk := [.int r_4]) (wX10_word cB cI cZ av a_this 0 v_size v_begins v_entries v_length v_pressed v_streamFrames v_zeros v_level v_sum v_tail v_isPlayed v_found v_strange v_innerFails v_outerFails v_mostMarks v_unsure v_may v_mocks v_sumThen v_bits) C hw (ct_X10_in l D cB cI cZ tw av (Int32.toInt64 x2) 0 32 r_4 hq_5.symm) cal_X10_in tw_1176 [] [0, 1] 2 [oX10 a_this av 0 v_size v_begins v_entries v_length v_pressed v_streamFrames v_zeros v_level v_sum v_tail v_isPlayed v_found v_strange v_innerFails v_outerFails v_mostMarks v_unsure v_may v_mocks v_sumThen, ((av 13), .inl (cB, 360000, .inl v_bits))] rfl rfl rfl rfl rfl rfl rfl rfl rfl rfl rfl (Nat.le_of_ble_eq_true rfl) hl.1 ⟨Nat.le_of_ble_eq_true rfl, Nat.le_of_ble_eq_true rfl⟩ ⟨Nat.zero_le _, Nat.zero_le _⟩ dX10_word_27 (fun H locs hw => ?_)
    refine lv_if_eq (pc := 30) (tgt := 55) hx hb dX10_word_30 (by decide) (fun hc_6 => ?_) (fun hc_6 => ?_)
    · have h := ift hc_6 h
      refine lv_iconst (pc := 55) (v := (-1)) hx hb dX10_word_55 (by decide) ?_
      exact x_iret (pc := 56) (v := ((-1), 0)) C (Option.some.inj h) rfl hw dX10_word_56
    · have h := iff' hc_6 h
      refine lv_aload_n (pc := 33) hx hb dX10_word_33 rfl (lv_at hl 0 rfl) ?_
      refine lv_sipush (pc := 34) (v := 588) hx hb dX10_word_34 (by decide) ?_
      refine lv_iload_n (pc := 37) hx hb dX10_word_37 rfl (lv_at hl 1 rfl) ?_
      refine lv_imul (pc := 38) hx hb dX10_word_38 ?_
      refine lv_bipush (pc := 39) (v := 27) hx hb dX10_word_39 (by decide) ?_
      refine lv_iadd (pc := 41) hx hb dX10_word_41 ?_
      refine lv_bipush (pc := 42) (v := 17) hx hb dX10_word_42 (by decide) ?_
      refine lv_iload_n (pc := 44) hx hb dX10_word_44 rfl (lv_at hl 2 rfl) ?_
      refine lv_imul (pc := 45) hx hb dX10_word_45 ?_
      refine lv_iadd (pc := 46) hx hb dX10_word_46 ?_
      refine lv_bipush (pc := 47) (v := 14) hx hb dX10_word_47 (by decide) ?_
      obtain ⟨r_7, hq_8, h⟩ := ob1_at h
      refine x_callV (pc := 49) (rest := []) (stk := [.int r_7]) (wX10_word cB cI cZ av a_this 0 v_size v_begins v_entries v_length v_pressed v_streamFrames v_zeros v_level v_sum v_tail v_isPlayed v_found v_strange v_innerFails v_outerFails v_mostMarks v_unsure v_may v_mocks v_sumThen v_bits) C hw (ct_X10_taken l D cB cI cZ tw av a_this 0 v_size v_begins v_entries v_length v_pressed v_streamFrames v_zeros v_level v_sum v_tail v_isPlayed v_found v_strange v_innerFails v_outerFails v_mostMarks v_unsure v_may v_mocks v_sumThen v_bits ((((588 : Int32) * x1) + (27 : Int32)) + ((17 : Int32) * x2)) 14 r_7 hq_8) cal_X10_taken tw_1345 (q0 := 0) rfl rfl [0, 1] [] 2 [] rfl rfl rfl rfl rfl rfl rfl rfl rfl rfl rfl (Nat.le_of_ble_eq_true rfl) hl.1 ⟨Nat.le_of_ble_eq_true rfl, Nat.le_of_ble_eq_true rfl⟩ ⟨Nat.zero_le _, Nat.zero_le _⟩ dX10_word_49 (fun H locs hw => ?_)
      refine lv_goto (pc := 52) (tgt := 56) hx hb dX10_word_52 (by decide) ?_
      exact x_iret (pc := 56) (v := (r_7, 0)) C (Option.some.inj h) rfl hw dX10_word_56
def wX10_joint (cB cI cZ : ClassId) (av : Nat → Nat) (a_this : Nat) (v_thrown : Int32) (v_size : Int32) (v_begins : Int32) (v_entries : Int32) (v_length : Int32) (v_pressed : Int32) (v_streamFrames : Int32) (v_zeros : Int32) (v_level : Int32) (v_sum : Int32) (v_tail : Int32) (v_isPlayed : Int32) (v_found : Int32) (v_strange : Int32) (v_innerFails : Int32) (v_outerFails : Int32) (v_mostMarks : Int32) (v_unsure : Int32) (v_may : Int32) (v_mocks : Int32) (v_sumThen : Int32) (v_bits : Nat → Int32) : va_W := [oX10 a_this av v_thrown v_size v_begins v_entries v_length v_pressed v_streamFrames v_zeros v_level v_sum v_tail v_isPlayed v_found v_strange v_innerFails v_outerFails v_mostMarks v_unsure v_may v_mocks v_sumThen, ((av 13), .inl (cB, 360000, .inl v_bits))]
def fX10_joint (v_length : Int32) (v_pressed : Int32) (v_thrown : Int32) (v_bits : Nat → Int32) (x1 : Int32) (x2 : Int32) : Option (Int32 × Int32) := nt1 (fX10_in (Int32.toInt64 x1) 0 (Int32.toInt64 (v_pressed - (1 : Int32)))) fun r_1 => if r_1 = 0 then some ((-1), 0) else nt1 (fX10_in (Int32.toInt64 x2) 0 33) fun r_4 => if r_4 = 0 then some ((-1), 0) else ob1 (fX10_taken v_length v_bits ((((588 : Int32) * x1) + (24 : Int32)) + ((17 : Int32) * x2)) 3) fun r_7 => some (r_7, 0)
set_option maxHeartbeats 4000000 in
set_option maxRecDepth 100000 in
theorem ct_X10_joint (l : Launch) (D : va_G) (cB cI cZ : ClassId) (tw : Nat) (av : Nat → Nat) (a_this : Nat) (v_thrown : Int32) (v_size : Int32) (v_begins : Int32) (v_entries : Int32) (v_length : Int32) (v_pressed : Int32) (v_streamFrames : Int32) (v_zeros : Int32) (v_level : Int32) (v_sum : Int32) (v_tail : Int32) (v_isPlayed : Int32) (v_found : Int32) (v_strange : Int32) (v_innerFails : Int32) (v_outerFails : Int32) (v_mostMarks : Int32) (v_unsure : Int32) (v_may : Int32) (v_mocks : Int32) (v_sumThen : Int32) (v_bits : Nat → Int32) (x1 : Int32) (x2 : Int32) (res : Int32 × Int32) (h : fX10_joint v_length v_pressed v_thrown v_bits x1 x2 = some res) : Ctr l yX10_joint cX10_joint 3 (some .int) (rmK 2 45) D (tyL cB cI cZ) tw [.ref a_this, .int x1, .int x2] (wX10_joint cB cI cZ av a_this v_thrown v_size v_begins v_entries v_length v_pressed v_streamFrames v_zeros v_level v_sum v_tail v_isPlayed v_found v_strange v_innerFails v_outerFails v_mostMarks v_unsure v_may v_mocks v_sumThen v_bits) (fun res : Int32 × Int32 => some (.int res.1)) (fun res : Int32 × Int32 => (wX10_joint cB cI cZ av a_this (res.2) v_size v_begins v_entries v_length v_pressed v_streamFrames v_zeros v_level v_sum v_tail v_isPlayed v_found v_strange v_innerFails v_outerFails v_mostMarks v_unsure v_may v_mocks v_sumThen v_bits)) res := by
  refine ctr_of RX10 (by decide) rfl (Nat.le_of_ble_eq_true rfl) ?_
  intro p e s m below meth c A C hw ls hl
  have hx := C.1
  have hb := C.2.1
  have hl : lv_has ls 3 [(0, .ref a_this), (1, .int x1), (2, .int x2)] := hl
  unfold fX10_joint at h
  refine lv_aload_n (pc := 0) hx hb dX10_joint_0 rfl (lv_at hl 0 rfl) ?_
  refine lv_iconst (pc := 1) (v := 0) hx hb dX10_joint_1 (by decide) ?_
  refine pf_X10_100 (pc := 2) (wX10_joint cB cI cZ av a_this 0 v_size v_begins v_entries v_length v_pressed v_streamFrames v_zeros v_level v_sum v_tail v_isPlayed v_found v_strange v_innerFails v_outerFails v_mostMarks v_unsure v_may v_mocks v_sumThen v_bits) C hw 0 rfl rfl rfl rfl (Nat.le_of_ble_eq_true rfl) dX10_joint_2 (fun H locs hw => ?_)
  refine lv_iload_n (pc := 5) hx hb dX10_joint_5 rfl (lv_at hl 1 rfl) ?_
  refine lv_i2l (pc := 6) hx hb dX10_joint_6 rfl ?_
  refine lv_lconst (pc := 7) (v := 0) hx hb dX10_joint_7 (by decide) ?_
  refine lv_aload_n (pc := 8) hx hb dX10_joint_8 rfl (lv_at hl 0 rfl) ?_
  refine gf_X10_231 (pc := 9) C hw 0 rfl rfl dX10_joint_9 ?_
  refine lv_iconst (pc := 12) (v := 1) hx hb dX10_joint_12 (by decide) ?_
  refine lv_isub (pc := 13) hx hb dX10_joint_13 ?_
  refine lv_i2l (pc := 14) hx hb dX10_joint_14 rfl ?_
  obtain ⟨r_1, hq_2, h⟩ := nt1_at h
  refine x_callS (pc := 15) (rest := []) (stk := [.int r_1]) (wX10_joint cB cI cZ av a_this 0 v_size v_begins v_entries v_length v_pressed v_streamFrames v_zeros v_level v_sum v_tail v_isPlayed v_found v_strange v_innerFails v_outerFails v_mostMarks v_unsure v_may v_mocks v_sumThen v_bits) C hw (ct_X10_in l D cB cI cZ tw av (Int32.toInt64 x1) 0 (Int32.toInt64 (v_pressed - (1 : Int32))) r_1 hq_2.symm) cal_X10_in tw_1176 [] [0, 1] 2 [oX10 a_this av 0 v_size v_begins v_entries v_length v_pressed v_streamFrames v_zeros v_level v_sum v_tail v_isPlayed v_found v_strange v_innerFails v_outerFails v_mostMarks v_unsure v_may v_mocks v_sumThen, ((av 13), .inl (cB, 360000, .inl v_bits))] rfl rfl rfl rfl rfl rfl rfl rfl rfl rfl rfl (Nat.le_of_ble_eq_true rfl) hl.1 ⟨Nat.le_of_ble_eq_true rfl, Nat.le_of_ble_eq_true rfl⟩ ⟨Nat.zero_le _, Nat.zero_le _⟩ dX10_joint_15 (fun H locs hw => ?_)
  refine lv_if_eq (pc := 18) (tgt := 54) hx hb dX10_joint_18 (by decide) (fun hc_3 => ?_) (fun hc_3 => ?_)
  · have h := ift hc_3 h
    refine lv_iconst (pc := 54) (v := (-1)) hx hb dX10_joint_54 (by decide) ?_
    exact x_iret (pc := 55) (v := ((-1), 0)) C (Option.some.inj h) rfl hw dX10_joint_55
  · have h := iff' hc_3 h
    refine lv_iload_n (pc := 21) hx hb dX10_joint_21 rfl (lv_at hl 2 rfl) ?_
    refine lv_i2l (pc := 22) hx hb dX10_joint_22 rfl ?_
    refine lv_lconst (pc := 23) (v := 0) hx hb dX10_joint_23 (by decide) ?_
    refine lv_ldc2 (pc := 24) (own := RX10) (v := 33) hx hb C.2.2.2.1 (C.2.2.2.2.1 _ tw_1362) dX10_joint_24 ?_
    obtain ⟨r_4, hq_5, h⟩ := nt1_at h
    refine x_callS (pc := 27) (rest := []) (stk := [.int r_4]) (wX10_joint cB cI cZ av a_this 0 v_size v_begins v_entries v_length v_pressed v_streamFrames v_zeros v_level v_sum v_tail v_isPlayed v_found v_strange v_innerFails v_outerFails v_mostMarks v_unsure v_may v_mocks v_sumThen v_bits) C hw (ct_X10_in l D cB cI cZ tw av (Int32.toInt64 x2) 0 33 r_4 hq_5.symm) cal_X10_in tw_1176 [] [0, 1] 2 [oX10 a_this av 0 v_size v_begins v_entries v_length v_pressed v_streamFrames v_zeros v_level v_sum v_tail v_isPlayed v_found v_strange v_innerFails v_outerFails v_mostMarks v_unsure v_may v_mocks v_sumThen, ((av 13), .inl (cB, 360000, .inl v_bits))] rfl rfl rfl rfl rfl rfl rfl rfl rfl rfl rfl (Nat.le_of_ble_eq_true rfl) hl.1 ⟨Nat.le_of_ble_eq_true rfl, Nat.le_of_ble_eq_true rfl⟩ ⟨Nat.zero_le _, Nat.zero_le _⟩ dX10_joint_27 (fun H locs hw => ?_)
    refine lv_if_eq (pc := 30) (tgt := 54) hx hb dX10_joint_30 (by decide) (fun hc_6 => ?_) (fun hc_6 => ?_)
    · have h := ift hc_6 h
      refine lv_iconst (pc := 54) (v := (-1)) hx hb dX10_joint_54 (by decide) ?_
      exact x_iret (pc := 55) (v := ((-1), 0)) C (Option.some.inj h) rfl hw dX10_joint_55
    · have h := iff' hc_6 h
      refine lv_aload_n (pc := 33) hx hb dX10_joint_33 rfl (lv_at hl 0 rfl) ?_
      refine lv_sipush (pc := 34) (v := 588) hx hb dX10_joint_34 (by decide) ?_
      refine lv_iload_n (pc := 37) hx hb dX10_joint_37 rfl (lv_at hl 1 rfl) ?_
      refine lv_imul (pc := 38) hx hb dX10_joint_38 ?_
      refine lv_bipush (pc := 39) (v := 24) hx hb dX10_joint_39 (by decide) ?_
      refine lv_iadd (pc := 41) hx hb dX10_joint_41 ?_
      refine lv_bipush (pc := 42) (v := 17) hx hb dX10_joint_42 (by decide) ?_
      refine lv_iload_n (pc := 44) hx hb dX10_joint_44 rfl (lv_at hl 2 rfl) ?_
      refine lv_imul (pc := 45) hx hb dX10_joint_45 ?_
      refine lv_iadd (pc := 46) hx hb dX10_joint_46 ?_
      refine lv_iconst (pc := 47) (v := 3) hx hb dX10_joint_47 (by decide) ?_
      obtain ⟨r_7, hq_8, h⟩ := ob1_at h
      refine x_callV (pc := 48) (rest := []) (stk := [.int r_7]) (wX10_joint cB cI cZ av a_this 0 v_size v_begins v_entries v_length v_pressed v_streamFrames v_zeros v_level v_sum v_tail v_isPlayed v_found v_strange v_innerFails v_outerFails v_mostMarks v_unsure v_may v_mocks v_sumThen v_bits) C hw (ct_X10_taken l D cB cI cZ tw av a_this 0 v_size v_begins v_entries v_length v_pressed v_streamFrames v_zeros v_level v_sum v_tail v_isPlayed v_found v_strange v_innerFails v_outerFails v_mostMarks v_unsure v_may v_mocks v_sumThen v_bits ((((588 : Int32) * x1) + (24 : Int32)) + ((17 : Int32) * x2)) 3 r_7 hq_8) cal_X10_taken tw_1345 (q0 := 0) rfl rfl [0, 1] [] 2 [] rfl rfl rfl rfl rfl rfl rfl rfl rfl rfl rfl (Nat.le_of_ble_eq_true rfl) hl.1 ⟨Nat.le_of_ble_eq_true rfl, Nat.le_of_ble_eq_true rfl⟩ ⟨Nat.zero_le _, Nat.zero_le _⟩ dX10_joint_48 (fun H locs hw => ?_)
      refine lv_goto (pc := 51) (tgt := 55) hx hb dX10_joint_51 (by decide) ?_
      exact x_iret (pc := 55) (v := (r_7, 0)) C (Option.some.inj h) rfl hw dX10_joint_55
def wX10_balance (cB cI cZ : ClassId) (av : Nat → Nat) (a_this : Nat) (v_thrown : Int32) (v_size : Int32) (v_begins : Int32) (v_entries : Int32) (v_length : Int32) (v_pressed : Int32) (v_streamFrames : Int32) (v_zeros : Int32) (v_level : Int32) (v_sum : Int32) (v_tail : Int32) (v_isPlayed : Int32) (v_found : Int32) (v_strange : Int32) (v_innerFails : Int32) (v_outerFails : Int32) (v_mostMarks : Int32) (v_unsure : Int32) (v_may : Int32) (v_mocks : Int32) (v_sumThen : Int32) (v_bits : Nat → Int32) : va_W := [oX10 a_this av v_thrown v_size v_begins v_entries v_length v_pressed v_streamFrames v_zeros v_level v_sum v_tail v_isPlayed v_found v_strange v_innerFails v_outerFails v_mostMarks v_unsure v_may v_mocks v_sumThen, ((av 13), .inl (cB, 360000, .inl v_bits))]
def fX10_balance_L30 (x1 : Int32) (v_bits : Nat → Int32) : Nat → Int32 → Int32 → Int32 → Option (Int32 × Int32)
  | 0, _, _, _ => none
  | F30_7 + 1, x4_4, x3_5, x2_6 => if x1 ≤ x4_4 then some (x3_5, 0) else og (ixb x4_4 360000) (jk (fun (t_10 : Int32) => nm ((x3_5 + t_10) : Int32) fun x3_12 => nm (x4_4 + 1 : Int32) fun x4_13 => fX10_balance_L30 x1 v_bits F30_7 x4_13 x3_12 t_10) fun j53_11 => if (v_bits (Int32.toNatClampNeg x4_4)) = (1 : Int32) then j53_11 (-x2_6) else j53_11 x2_6)
def fX10_balance (v_length : Int32) (v_thrown : Int32) (v_bits : Nat → Int32) (x1 : Int32) : Option (Int32 × Int32) := nt1 (fX10_in (Int32.toInt64 x1) 0 (Int32.toInt64 v_length)) fun r_1 => if r_1 = 0 then some ((-1000000), 0) else fX10_balance_L30 x1 v_bits FU 0 0 1
set_option maxHeartbeats 4000000 in
set_option maxRecDepth 100000 in
theorem ct_X10_balance (l : Launch) (D : va_G) (cB cI cZ : ClassId) (tw : Nat) (av : Nat → Nat) (a_this : Nat) (v_thrown : Int32) (v_size : Int32) (v_begins : Int32) (v_entries : Int32) (v_length : Int32) (v_pressed : Int32) (v_streamFrames : Int32) (v_zeros : Int32) (v_level : Int32) (v_sum : Int32) (v_tail : Int32) (v_isPlayed : Int32) (v_found : Int32) (v_strange : Int32) (v_innerFails : Int32) (v_outerFails : Int32) (v_mostMarks : Int32) (v_unsure : Int32) (v_may : Int32) (v_mocks : Int32) (v_sumThen : Int32) (v_bits : Nat → Int32) (x1 : Int32) (res : Int32 × Int32) (h : fX10_balance v_length v_thrown v_bits x1 = some res) : Ctr l yX10_balance cX10_balance 5 (some .int) (rmK 1 25) D (tyL cB cI cZ) tw [.ref a_this, .int x1] (wX10_balance cB cI cZ av a_this v_thrown v_size v_begins v_entries v_length v_pressed v_streamFrames v_zeros v_level v_sum v_tail v_isPlayed v_found v_strange v_innerFails v_outerFails v_mostMarks v_unsure v_may v_mocks v_sumThen v_bits) (fun res : Int32 × Int32 => some (.int res.1)) (fun res : Int32 × Int32 => (wX10_balance cB cI cZ av a_this (res.2) v_size v_begins v_entries v_length v_pressed v_streamFrames v_zeros v_level v_sum v_tail v_isPlayed v_found v_strange v_innerFails v_outerFails v_mostMarks v_unsure v_may v_mocks v_sumThen v_bits)) res := by
  refine ctr_of RX10 (by decide) rfl (Nat.le_of_ble_eq_true rfl) ?_
  intro p e s m below meth c A C hw ls hl
  have hx := C.1
  have hb := C.2.1
  have hl : lv_has ls 5 [(0, .ref a_this), (1, .int x1)] := hl
  unfold fX10_balance at h
  refine lv_aload_n (pc := 0) hx hb dX10_balance_0 rfl (lv_at hl 0 rfl) ?_
  refine lv_iconst (pc := 1) (v := 0) hx hb dX10_balance_1 (by decide) ?_
  refine pf_X10_100 (pc := 2) (wX10_balance cB cI cZ av a_this 0 v_size v_begins v_entries v_length v_pressed v_streamFrames v_zeros v_level v_sum v_tail v_isPlayed v_found v_strange v_innerFails v_outerFails v_mostMarks v_unsure v_may v_mocks v_sumThen v_bits) C hw 0 rfl rfl rfl rfl (Nat.le_of_ble_eq_true rfl) dX10_balance_2 (fun H locs hw => ?_)
  refine lv_iload_n (pc := 5) hx hb dX10_balance_5 rfl (lv_at hl 1 rfl) ?_
  refine lv_i2l (pc := 6) hx hb dX10_balance_6 rfl ?_
  refine lv_lconst (pc := 7) (v := 0) hx hb dX10_balance_7 (by decide) ?_
  refine lv_aload_n (pc := 8) hx hb dX10_balance_8 rfl (lv_at hl 0 rfl) ?_
  refine gf_X10_185 (pc := 9) C hw 0 rfl rfl dX10_balance_9 ?_
  refine lv_i2l (pc := 12) hx hb dX10_balance_12 rfl ?_
  obtain ⟨r_1, hq_2, h⟩ := nt1_at h
  refine x_callS (pc := 13) (rest := []) (stk := [.int r_1]) (wX10_balance cB cI cZ av a_this 0 v_size v_begins v_entries v_length v_pressed v_streamFrames v_zeros v_level v_sum v_tail v_isPlayed v_found v_strange v_innerFails v_outerFails v_mostMarks v_unsure v_may v_mocks v_sumThen v_bits) C hw (ct_X10_in l D cB cI cZ tw av (Int32.toInt64 x1) 0 (Int32.toInt64 v_length) r_1 hq_2.symm) cal_X10_in tw_1176 [] [0, 1] 2 [oX10 a_this av 0 v_size v_begins v_entries v_length v_pressed v_streamFrames v_zeros v_level v_sum v_tail v_isPlayed v_found v_strange v_innerFails v_outerFails v_mostMarks v_unsure v_may v_mocks v_sumThen, ((av 13), .inl (cB, 360000, .inl v_bits))] rfl rfl rfl rfl rfl rfl rfl rfl rfl rfl rfl (Nat.le_of_ble_eq_true rfl) hl.1 ⟨Nat.le_of_ble_eq_true rfl, Nat.le_of_ble_eq_true rfl⟩ ⟨Nat.zero_le _, Nat.zero_le _⟩ dX10_balance_13 (fun H locs hw => ?_)
  refine lv_if_ne (pc := 16) (tgt := 23) hx hb dX10_balance_16 (by decide) (fun hc_3 => ?_) (fun hc_3 => ?_)
  · have h := iff' hc_3 h
    refine lv_iconst (pc := 23) (v := 1) hx hb dX10_balance_23 (by decide) ?_
    refine lv_istore_n (pc := 24) (lv' := [(2, .int 1), (0, .ref a_this), (1, .int x1)]) hx hb dX10_balance_24 rfl hl (by decide) rfl (fun ls hl => ?_)
    refine lv_iconst (pc := 25) (v := 0) hx hb dX10_balance_25 (by decide) ?_
    refine lv_istore_n (pc := 26) (lv' := [(3, .int 0), (2, .int 1), (0, .ref a_this), (1, .int x1)]) hx hb dX10_balance_26 rfl hl (by decide) rfl (fun ls hl => ?_)
    refine lv_iconst (pc := 27) (v := 0) hx hb dX10_balance_27 (by decide) ?_
    refine lv_istore (pc := 28) (lv' := [(4, .int 0), (3, .int 0), (2, .int 1), (0, .ref a_this), (1, .int x1)]) hx hb dX10_balance_28 hl (by decide) rfl (fun ls hl => ?_)
    have Lih30_7 : ∀ (F : Nat) (x4_4 : Int32) (x3_5 : Int32) (x2_6 : Int32) (ls : Array Slot) (H : Heap) (locs : List Loc), lv_has ls 5 [(4, .int x4_4), (3, .int x3_5), (2, .int x2_6), (0, .ref a_this), (1, .int x1)] → Wd D A s (wX10_balance cB cI cZ av a_this 0 v_size v_begins v_entries v_length v_pressed v_streamFrames v_zeros v_level v_sum v_tail v_isPlayed v_found v_strange v_innerFails v_outerFails v_mostMarks v_unsure v_may v_mocks v_sumThen v_bits) H locs → fX10_balance_L30 x1 v_bits F x4_4 x3_5 x2_6 = some res → W p l e (rmK 1 25) s m ([.ref a_this, .int x1] : List Value).toArray below meth c H locs 0 0 (MQ below (QG D (tyL cB cI cZ) A (fun res : Int32 × Int32 => some (.int res.1)) (fun res : Int32 × Int32 => (wX10_balance cB cI cZ av a_this (res.2) v_size v_begins v_entries v_length v_pressed v_streamFrames v_zeros v_level v_sum v_tail v_isPlayed v_found v_strange v_innerFails v_outerFails v_mostMarks v_unsure v_may v_mocks v_sumThen v_bits)) res) ([.ref a_this, .int x1] : List Value).toArray s 0 0 A) (F0 m 30 ls []) := by
      intro F
      induction F with
      | zero => intro x4_4 x3_5 x2_6 ls H locs hl hw h; rw [fX10_balance_L30.eq_1] at h; cases h
      | succ F30_7 ih30_7 =>
        intro x4_4 x3_5 x2_6 ls H locs hl hw h
        rw [fX10_balance_L30.eq_2] at h
        refine lv_iload (pc := 30) hx hb dX10_balance_30 (lv_at hl 0 rfl) ?_
        refine lv_iload_n (pc := 32) hx hb dX10_balance_32 rfl (lv_at hl 4 rfl) ?_
        refine lv_icmp_ge (pc := 33) (tgt := 64) hx hb dX10_balance_33 (by decide) (fun hc_8 => ?_) (fun hc_8 => ?_)
        · have h := ift hc_8 h
          refine lv_iload_n (pc := 64) hx hb dX10_balance_64 rfl (lv_at hl 1 rfl) ?_
          exact x_iret (pc := 65) (v := (x3_5, 0)) C (Option.some.inj h) rfl hw dX10_balance_65
        · have h := iff' hc_8 h
          refine lv_aload_n (pc := 36) hx hb dX10_balance_36 rfl (lv_at hl 3 rfl) ?_
          refine gf_X10_39 (pc := 37) C hw 0 rfl rfl dX10_balance_37 ?_
          refine lv_iload (pc := 40) hx hb dX10_balance_40 (lv_at hl 0 rfl) ?_
          obtain ⟨hi_9, h⟩ := og_at h
          refine x_bald (pc := 42) C hw 1 rfl hi_9 dX10_balance_42 ?_
          refine lv_iconst (pc := 43) (v := 1) hx hb dX10_balance_43 (by decide) ?_
          obtain ⟨j53_11, ej53_11, h⟩ := jk_at h
          have J53_11 : ∀ (t_10 : Int32) (ls : Array Slot) (H : Heap) (locs : List Loc), lv_has ls 5 [(4, .int x4_4), (3, .int x3_5), (0, .ref a_this), (1, .int x1)] → Wd D A s (wX10_balance cB cI cZ av a_this 0 v_size v_begins v_entries v_length v_pressed v_streamFrames v_zeros v_level v_sum v_tail v_isPlayed v_found v_strange v_innerFails v_outerFails v_mostMarks v_unsure v_may v_mocks v_sumThen v_bits) H locs → j53_11 t_10 = some res → W p l e (rmK 1 25) s m ([.ref a_this, .int x1] : List Value).toArray below meth c H locs 0 0 (MQ below (QG D (tyL cB cI cZ) A (fun res : Int32 × Int32 => some (.int res.1)) (fun res : Int32 × Int32 => (wX10_balance cB cI cZ av a_this (res.2) v_size v_begins v_entries v_length v_pressed v_streamFrames v_zeros v_level v_sum v_tail v_isPlayed v_found v_strange v_innerFails v_outerFails v_mostMarks v_unsure v_may v_mocks v_sumThen v_bits)) res) ([.ref a_this, .int x1] : List Value).toArray s 0 0 A) (F0 m 53 ls [.int t_10]) := by
            intro t_10 ls H locs hl hw h
            have h := k1_at ej53_11 h
            refine lv_istore_n (pc := 53) (lv' := [(2, .int t_10), (4, .int x4_4), (3, .int x3_5), (0, .ref a_this), (1, .int x1)]) hx hb dX10_balance_53 rfl hl (by decide) rfl (fun ls hl => ?_)
            refine lv_iload_n (pc := 54) hx hb dX10_balance_54 rfl (lv_at hl 2 rfl) ?_
            refine lv_iload_n (pc := 55) hx hb dX10_balance_55 rfl (lv_at hl 0 rfl) ?_
            refine lv_iadd (pc := 56) hx hb dX10_balance_56 ?_
            refine lv_topi (pc := 57) (fun x3_12 ex3_12 => ?_)
            have h := nm_at ex3_12 h
            refine lv_istore_n (pc := 57) (lv' := [(3, .int x3_12), (2, .int t_10), (4, .int x4_4), (0, .ref a_this), (1, .int x1)]) hx hb dX10_balance_57 rfl hl (by decide) rfl (fun ls hl => ?_)
            obtain ⟨x4_13, ex4_13⟩ : ∃ y : Int32, y = x4_4 + 1 := ⟨_, rfl⟩
            have h := nm_at ex4_13 h
            refine lv_iinc (pc := 58) (v := x4_13) (lv' := [(4, .int x4_13), (3, .int x3_12), (2, .int t_10), (0, .ref a_this), (1, .int x1)]) hx hb dX10_balance_58 hl (k := 2) rfl (by rw [ex4_13]; rfl) (by decide) rfl (fun ls hl => ?_)
            refine lv_goto (pc := 61) (tgt := 30) hx hb dX10_balance_61 (by decide) ?_
            exact ih30_7 x4_13 x3_12 t_10 ls _ _ (lv_sub hl [0, 1, 2, 3, 4] rfl) hw h
          refine lv_icmp_ne (pc := 44) (tgt := 52) hx hb dX10_balance_44 (by decide) (fun hc_14 => ?_) (fun hc_14 => ?_)
          · have h := iff' hc_14 h
            refine lv_iload_n (pc := 52) hx hb dX10_balance_52 rfl (lv_at hl 2 rfl) ?_
            exact J53_11 x2_6 ls _ _ (lv_sub hl [0, 1, 3, 4] rfl) hw h
          · have h := ift hc_14 h
            refine lv_iload_n (pc := 47) hx hb dX10_balance_47 rfl (lv_at hl 2 rfl) ?_
            refine lv_ineg (pc := 48) hx hb dX10_balance_48 ?_
            refine lv_goto (pc := 49) (tgt := 53) hx hb dX10_balance_49 (by decide) ?_
            exact J53_11 (-x2_6) ls _ _ (lv_sub hl [0, 1, 3, 4] rfl) hw h
    exact Lih30_7 FU 0 0 1 ls _ _ (lv_sub hl [0, 1, 2, 3, 4] rfl) hw h
  · have h := ift hc_3 h
    refine lv_ldcw (own := RX10) (v := (-1000000)) hx hb C.2.2.2.1 (C.2.2.2.2.1 _ tw_1367) dX10_balance_19 ?_
    exact x_iret (pc := 22) (v := ((-1000000), 0)) C (Option.some.inj h) rfl hw dX10_balance_22
def wX10_run (cB cI cZ : ClassId) (av : Nat → Nat) (a_this : Nat) (v_thrown : Int32) (v_size : Int32) (v_begins : Int32) (v_entries : Int32) (v_length : Int32) (v_pressed : Int32) (v_streamFrames : Int32) (v_zeros : Int32) (v_level : Int32) (v_sum : Int32) (v_tail : Int32) (v_isPlayed : Int32) (v_found : Int32) (v_strange : Int32) (v_innerFails : Int32) (v_outerFails : Int32) (v_mostMarks : Int32) (v_unsure : Int32) (v_may : Int32) (v_mocks : Int32) (v_sumThen : Int32) (v_bits : Nat → Int32) : va_W := [oX10 a_this av v_thrown v_size v_begins v_entries v_length v_pressed v_streamFrames v_zeros v_level v_sum v_tail v_isPlayed v_found v_strange v_innerFails v_outerFails v_mostMarks v_unsure v_may v_mocks v_sumThen, ((av 13), .inl (cB, 360000, .inl v_bits))]
def fX10_run_L12 (v_length : Int32) (v_bits : Nat → Int32) (x1 : Int32) : Nat → Int32 → Int32 → Int32 → Option (Int32 × Int32)
  | 0, _, _, _ => none
  | F12_4 + 1, x4_1, x3_2, x2_3 => if v_length ≤ x4_1 then some (x2_3, 0) else og (ixb x4_1 360000) (jk (fun (x3_7 : Int32) (x2_8 : Int32) => nm (x4_1 + 1 : Int32) fun x4_10 => fX10_run_L12 v_length v_bits x1 F12_4 x4_10 x3_7 x2_8) fun j91_9 => if (v_bits (Int32.toNatClampNeg x4_1)) = 0 then j91_9 x3_2 x2_3 else nm (((x4_1 - x3_2) - (1 : Int32)) : Int32) fun x5_12 => jk (fun (t_13 : Int32) => jk (fun (t_15 : Int32) => j91_9 x4_1 t_15) fun j87_16 => if t_13 = 0 then j87_16 x2_3 else j87_16 x5_12) fun j74_14 => jk (j74_14 0) fun j73_18 => if x3_2 < 0 then j73_18 else jk (j74_14 1) fun j69_20 => if x2_3 < 0 then j69_20 else if x1 = 0 then if x2_3 ≤ x5_12 then j73_18 else j69_20 else if x5_12 ≤ x2_3 then j73_18 else j69_20)
def fX10_run (v_length : Int32) (v_thrown : Int32) (v_bits : Nat → Int32) (x1 : Int32) : Option (Int32 × Int32) := fX10_run_L12 v_length v_bits x1 FU 0 (-1) (-1)
set_option maxHeartbeats 4000000 in
set_option maxRecDepth 100000 in
theorem ct_X10_run (l : Launch) (D : va_G) (cB cI cZ : ClassId) (tw : Nat) (av : Nat → Nat) (a_this : Nat) (v_thrown : Int32) (v_size : Int32) (v_begins : Int32) (v_entries : Int32) (v_length : Int32) (v_pressed : Int32) (v_streamFrames : Int32) (v_zeros : Int32) (v_level : Int32) (v_sum : Int32) (v_tail : Int32) (v_isPlayed : Int32) (v_found : Int32) (v_strange : Int32) (v_innerFails : Int32) (v_outerFails : Int32) (v_mostMarks : Int32) (v_unsure : Int32) (v_may : Int32) (v_mocks : Int32) (v_sumThen : Int32) (v_bits : Nat → Int32) (x1 : Int32) (res : Int32 × Int32) (h : fX10_run v_length v_thrown v_bits x1 = some res) : Ctr l yX10_run cX10_run 7 (some .int) (rmK 0 0) D (tyL cB cI cZ) tw [.ref a_this, .int x1] (wX10_run cB cI cZ av a_this v_thrown v_size v_begins v_entries v_length v_pressed v_streamFrames v_zeros v_level v_sum v_tail v_isPlayed v_found v_strange v_innerFails v_outerFails v_mostMarks v_unsure v_may v_mocks v_sumThen v_bits) (fun res : Int32 × Int32 => some (.int res.1)) (fun res : Int32 × Int32 => (wX10_run cB cI cZ av a_this (res.2) v_size v_begins v_entries v_length v_pressed v_streamFrames v_zeros v_level v_sum v_tail v_isPlayed v_found v_strange v_innerFails v_outerFails v_mostMarks v_unsure v_may v_mocks v_sumThen v_bits)) res := by
  refine ctr_of RX10 (by decide) rfl (Nat.le_of_ble_eq_true rfl) ?_
  intro p e s m below meth c A C hw ls hl
  have hx := C.1
  have hb := C.2.1
  have hl : lv_has ls 7 [(0, .ref a_this), (1, .int x1)] := hl
  unfold fX10_run at h
  refine lv_aload_n (pc := 0) hx hb dX10_run_0 rfl (lv_at hl 0 rfl) ?_
  refine lv_iconst (pc := 1) (v := 0) hx hb dX10_run_1 (by decide) ?_
  refine pf_X10_100 (pc := 2) (wX10_run cB cI cZ av a_this 0 v_size v_begins v_entries v_length v_pressed v_streamFrames v_zeros v_level v_sum v_tail v_isPlayed v_found v_strange v_innerFails v_outerFails v_mostMarks v_unsure v_may v_mocks v_sumThen v_bits) C hw 0 rfl rfl rfl rfl (Nat.le_of_ble_eq_true rfl) dX10_run_2 (fun H locs hw => ?_)
  refine lv_iconst (pc := 5) (v := (-1)) hx hb dX10_run_5 (by decide) ?_
  refine lv_istore_n (pc := 6) (lv' := [(2, .int (-1)), (0, .ref a_this), (1, .int x1)]) hx hb dX10_run_6 rfl hl (by decide) rfl (fun ls hl => ?_)
  refine lv_iconst (pc := 7) (v := (-1)) hx hb dX10_run_7 (by decide) ?_
  refine lv_istore_n (pc := 8) (lv' := [(3, .int (-1)), (2, .int (-1)), (0, .ref a_this), (1, .int x1)]) hx hb dX10_run_8 rfl hl (by decide) rfl (fun ls hl => ?_)
  refine lv_iconst (pc := 9) (v := 0) hx hb dX10_run_9 (by decide) ?_
  refine lv_istore (pc := 10) (lv' := [(4, .int 0), (3, .int (-1)), (2, .int (-1)), (0, .ref a_this), (1, .int x1)]) hx hb dX10_run_10 hl (by decide) rfl (fun ls hl => ?_)
  have Lih12_4 : ∀ (F : Nat) (x4_1 : Int32) (x3_2 : Int32) (x2_3 : Int32) (ls : Array Slot) (H : Heap) (locs : List Loc), lv_has ls 7 [(4, .int x4_1), (3, .int x3_2), (2, .int x2_3), (0, .ref a_this), (1, .int x1)] → Wd D A s (wX10_run cB cI cZ av a_this 0 v_size v_begins v_entries v_length v_pressed v_streamFrames v_zeros v_level v_sum v_tail v_isPlayed v_found v_strange v_innerFails v_outerFails v_mostMarks v_unsure v_may v_mocks v_sumThen v_bits) H locs → fX10_run_L12 v_length v_bits x1 F x4_1 x3_2 x2_3 = some res → W p l e (rmK 0 0) s m ([.ref a_this, .int x1] : List Value).toArray below meth c H locs 0 0 (MQ below (QG D (tyL cB cI cZ) A (fun res : Int32 × Int32 => some (.int res.1)) (fun res : Int32 × Int32 => (wX10_run cB cI cZ av a_this (res.2) v_size v_begins v_entries v_length v_pressed v_streamFrames v_zeros v_level v_sum v_tail v_isPlayed v_found v_strange v_innerFails v_outerFails v_mostMarks v_unsure v_may v_mocks v_sumThen v_bits)) res) ([.ref a_this, .int x1] : List Value).toArray s 0 0 A) (F0 m 12 ls []) := by
    intro F
    induction F with
    | zero => intro x4_1 x3_2 x2_3 ls H locs hl hw h; rw [fX10_run_L12.eq_1] at h; cases h
    | succ F12_4 ih12_4 =>
      intro x4_1 x3_2 x2_3 ls H locs hl hw h
      rw [fX10_run_L12.eq_2] at h
      refine lv_iload (pc := 12) hx hb dX10_run_12 (lv_at hl 0 rfl) ?_
      refine lv_aload_n (pc := 14) hx hb dX10_run_14 rfl (lv_at hl 3 rfl) ?_
      refine gf_X10_185 (pc := 15) C hw 0 rfl rfl dX10_run_15 ?_
      refine lv_icmp_ge (pc := 18) (tgt := 97) hx hb dX10_run_18 (by decide) (fun hc_5 => ?_) (fun hc_5 => ?_)
      · have h := ift hc_5 h
        refine lv_iload_n (pc := 97) hx hb dX10_run_97 rfl (lv_at hl 2 rfl) ?_
        exact x_iret (pc := 98) (v := (x2_3, 0)) C (Option.some.inj h) rfl hw dX10_run_98
      · have h := iff' hc_5 h
        refine lv_aload_n (pc := 21) hx hb dX10_run_21 rfl (lv_at hl 3 rfl) ?_
        refine gf_X10_39 (pc := 22) C hw 0 rfl rfl dX10_run_22 ?_
        refine lv_iload (pc := 25) hx hb dX10_run_25 (lv_at hl 0 rfl) ?_
        obtain ⟨hi_6, h⟩ := og_at h
        refine x_bald (pc := 27) C hw 1 rfl hi_6 dX10_run_27 ?_
        obtain ⟨j91_9, ej91_9, h⟩ := jk_at h
        have J91_9 : ∀ (x3_7 : Int32) (x2_8 : Int32) (ls : Array Slot) (H : Heap) (locs : List Loc), lv_has ls 7 [(4, .int x4_1), (3, .int x3_7), (2, .int x2_8), (0, .ref a_this), (1, .int x1)] → Wd D A s (wX10_run cB cI cZ av a_this 0 v_size v_begins v_entries v_length v_pressed v_streamFrames v_zeros v_level v_sum v_tail v_isPlayed v_found v_strange v_innerFails v_outerFails v_mostMarks v_unsure v_may v_mocks v_sumThen v_bits) H locs → j91_9 x3_7 x2_8 = some res → W p l e (rmK 0 0) s m ([.ref a_this, .int x1] : List Value).toArray below meth c H locs 0 0 (MQ below (QG D (tyL cB cI cZ) A (fun res : Int32 × Int32 => some (.int res.1)) (fun res : Int32 × Int32 => (wX10_run cB cI cZ av a_this (res.2) v_size v_begins v_entries v_length v_pressed v_streamFrames v_zeros v_level v_sum v_tail v_isPlayed v_found v_strange v_innerFails v_outerFails v_mostMarks v_unsure v_may v_mocks v_sumThen v_bits)) res) ([.ref a_this, .int x1] : List Value).toArray s 0 0 A) (F0 m 91 ls []) := by
          intro x3_7 x2_8 ls H locs hl hw h
          have h := k2_at ej91_9 h
          obtain ⟨x4_10, ex4_10⟩ : ∃ y : Int32, y = x4_1 + 1 := ⟨_, rfl⟩
          have h := nm_at ex4_10 h
          refine lv_iinc (pc := 91) (v := x4_10) (lv' := [(4, .int x4_10), (3, .int x3_7), (2, .int x2_8), (0, .ref a_this), (1, .int x1)]) hx hb dX10_run_91 hl (k := 0) rfl (by rw [ex4_10]; rfl) (by decide) rfl (fun ls hl => ?_)
          refine lv_goto (pc := 94) (tgt := 12) hx hb dX10_run_94 (by decide) ?_
          exact ih12_4 x4_10 x3_7 x2_8 ls _ _ (lv_sub hl [0, 1, 2, 3, 4] rfl) hw h
        refine lv_if_ne (pc := 28) (tgt := 34) hx hb dX10_run_28 (by decide) (fun hc_11 => ?_) (fun hc_11 => ?_)
        · have h := iff' hc_11 h
          refine lv_iload (pc := 34) hx hb dX10_run_34 (lv_at hl 0 rfl) ?_
          refine lv_iload_n (pc := 36) hx hb dX10_run_36 rfl (lv_at hl 1 rfl) ?_
          refine lv_isub (pc := 37) hx hb dX10_run_37 ?_
          refine lv_iconst (pc := 38) (v := 1) hx hb dX10_run_38 (by decide) ?_
          refine lv_isub (pc := 39) hx hb dX10_run_39 ?_
          refine lv_topi (pc := 40) (fun x5_12 ex5_12 => ?_)
          have h := nm_at ex5_12 h
          refine lv_istore (pc := 40) (lv' := [(5, .int x5_12), (4, .int x4_1), (3, .int x3_2), (2, .int x2_3), (0, .ref a_this), (1, .int x1)]) hx hb dX10_run_40 hl (by decide) rfl (fun ls hl => ?_)
          refine lv_iload_n (pc := 42) hx hb dX10_run_42 rfl (lv_at hl 2 rfl) ?_
          obtain ⟨j74_14, ej74_14, h⟩ := jk_at h
          have J74_14 : ∀ (t_13 : Int32) (ls : Array Slot) (H : Heap) (locs : List Loc), lv_has ls 7 [(5, .int x5_12), (4, .int x4_1), (2, .int x2_3), (0, .ref a_this), (1, .int x1)] → Wd D A s (wX10_run cB cI cZ av a_this 0 v_size v_begins v_entries v_length v_pressed v_streamFrames v_zeros v_level v_sum v_tail v_isPlayed v_found v_strange v_innerFails v_outerFails v_mostMarks v_unsure v_may v_mocks v_sumThen v_bits) H locs → j74_14 t_13 = some res → W p l e (rmK 0 0) s m ([.ref a_this, .int x1] : List Value).toArray below meth c H locs 0 0 (MQ below (QG D (tyL cB cI cZ) A (fun res : Int32 × Int32 => some (.int res.1)) (fun res : Int32 × Int32 => (wX10_run cB cI cZ av a_this (res.2) v_size v_begins v_entries v_length v_pressed v_streamFrames v_zeros v_level v_sum v_tail v_isPlayed v_found v_strange v_innerFails v_outerFails v_mostMarks v_unsure v_may v_mocks v_sumThen v_bits)) res) ([.ref a_this, .int x1] : List Value).toArray s 0 0 A) (F0 m 74 ls [.int t_13]) := by
            intro t_13 ls H locs hl hw h
            have h := k1_at ej74_14 h
            refine lv_istore (pc := 74) (lv' := [(6, .int t_13), (5, .int x5_12), (4, .int x4_1), (2, .int x2_3), (0, .ref a_this), (1, .int x1)]) hx hb dX10_run_74 hl (by decide) rfl (fun ls hl => ?_)
            refine lv_iload (pc := 76) hx hb dX10_run_76 (lv_at hl 0 rfl) ?_
            obtain ⟨j87_16, ej87_16, h⟩ := jk_at h
            have J87_16 : ∀ (t_15 : Int32) (ls : Array Slot) (H : Heap) (locs : List Loc), lv_has ls 7 [(4, .int x4_1), (0, .ref a_this), (1, .int x1)] → Wd D A s (wX10_run cB cI cZ av a_this 0 v_size v_begins v_entries v_length v_pressed v_streamFrames v_zeros v_level v_sum v_tail v_isPlayed v_found v_strange v_innerFails v_outerFails v_mostMarks v_unsure v_may v_mocks v_sumThen v_bits) H locs → j87_16 t_15 = some res → W p l e (rmK 0 0) s m ([.ref a_this, .int x1] : List Value).toArray below meth c H locs 0 0 (MQ below (QG D (tyL cB cI cZ) A (fun res : Int32 × Int32 => some (.int res.1)) (fun res : Int32 × Int32 => (wX10_run cB cI cZ av a_this (res.2) v_size v_begins v_entries v_length v_pressed v_streamFrames v_zeros v_level v_sum v_tail v_isPlayed v_found v_strange v_innerFails v_outerFails v_mostMarks v_unsure v_may v_mocks v_sumThen v_bits)) res) ([.ref a_this, .int x1] : List Value).toArray s 0 0 A) (F0 m 87 ls [.int t_15]) := by
              intro t_15 ls H locs hl hw h
              have h := k1_at ej87_16 h
              refine lv_istore_n (pc := 87) (lv' := [(2, .int t_15), (4, .int x4_1), (0, .ref a_this), (1, .int x1)]) hx hb dX10_run_87 rfl hl (by decide) rfl (fun ls hl => ?_)
              refine lv_iload (pc := 88) hx hb dX10_run_88 (lv_at hl 1 rfl) ?_
              refine lv_istore_n (pc := 90) (lv' := [(3, .int x4_1), (2, .int t_15), (4, .int x4_1), (0, .ref a_this), (1, .int x1)]) hx hb dX10_run_90 rfl hl (by decide) rfl (fun ls hl => ?_)
              exact J91_9 x4_1 t_15 ls _ _ (lv_sub hl [2, 0, 1, 3, 4] rfl) hw h
            refine lv_if_eq (pc := 78) (tgt := 86) hx hb dX10_run_78 (by decide) (fun hc_17 => ?_) (fun hc_17 => ?_)
            · have h := ift hc_17 h
              refine lv_iload_n (pc := 86) hx hb dX10_run_86 rfl (lv_at hl 3 rfl) ?_
              exact J87_16 x2_3 ls _ _ (lv_sub hl [2, 4, 5] rfl) hw h
            · have h := iff' hc_17 h
              refine lv_iload (pc := 81) hx hb dX10_run_81 (lv_at hl 1 rfl) ?_
              refine lv_goto (pc := 83) (tgt := 87) hx hb dX10_run_83 (by decide) ?_
              exact J87_16 x5_12 ls _ _ (lv_sub hl [2, 4, 5] rfl) hw h
          obtain ⟨j73_18, ej73_18, h⟩ := jk_at h
          have J73_18 : ∀  (ls : Array Slot) (H : Heap) (locs : List Loc), lv_has ls 7 [(5, .int x5_12), (4, .int x4_1), (2, .int x2_3), (0, .ref a_this), (1, .int x1)] → Wd D A s (wX10_run cB cI cZ av a_this 0 v_size v_begins v_entries v_length v_pressed v_streamFrames v_zeros v_level v_sum v_tail v_isPlayed v_found v_strange v_innerFails v_outerFails v_mostMarks v_unsure v_may v_mocks v_sumThen v_bits) H locs → j73_18 = some res → W p l e (rmK 0 0) s m ([.ref a_this, .int x1] : List Value).toArray below meth c H locs 0 0 (MQ below (QG D (tyL cB cI cZ) A (fun res : Int32 × Int32 => some (.int res.1)) (fun res : Int32 × Int32 => (wX10_run cB cI cZ av a_this (res.2) v_size v_begins v_entries v_length v_pressed v_streamFrames v_zeros v_level v_sum v_tail v_isPlayed v_found v_strange v_innerFails v_outerFails v_mostMarks v_unsure v_may v_mocks v_sumThen v_bits)) res) ([.ref a_this, .int x1] : List Value).toArray s 0 0 A) (F0 m 73 ls []) := by
            intro  ls H locs hl hw h
            have h := k0_at ej73_18 h
            refine lv_iconst (pc := 73) (v := 0) hx hb dX10_run_73 (by decide) ?_
            exact J74_14 0 ls _ _ (lv_sub hl [0, 1, 2, 3, 4] rfl) hw h
          refine lv_if_lt (pc := 43) (tgt := 73) hx hb dX10_run_43 (by decide) (fun hc_19 => ?_) (fun hc_19 => ?_)
          · have h := ift hc_19 h
            exact J73_18  ls _ _ (lv_sub hl [0, 1, 3, 4, 5] rfl) hw h
          · have h := iff' hc_19 h
            refine lv_iload_n (pc := 46) hx hb dX10_run_46 rfl (lv_at hl 3 rfl) ?_
            obtain ⟨j69_20, ej69_20, h⟩ := jk_at h
            have J69_20 : ∀  (ls : Array Slot) (H : Heap) (locs : List Loc), lv_has ls 7 [(5, .int x5_12), (4, .int x4_1), (2, .int x2_3), (0, .ref a_this), (1, .int x1)] → Wd D A s (wX10_run cB cI cZ av a_this 0 v_size v_begins v_entries v_length v_pressed v_streamFrames v_zeros v_level v_sum v_tail v_isPlayed v_found v_strange v_innerFails v_outerFails v_mostMarks v_unsure v_may v_mocks v_sumThen v_bits) H locs → j69_20 = some res → W p l e (rmK 0 0) s m ([.ref a_this, .int x1] : List Value).toArray below meth c H locs 0 0 (MQ below (QG D (tyL cB cI cZ) A (fun res : Int32 × Int32 => some (.int res.1)) (fun res : Int32 × Int32 => (wX10_run cB cI cZ av a_this (res.2) v_size v_begins v_entries v_length v_pressed v_streamFrames v_zeros v_level v_sum v_tail v_isPlayed v_found v_strange v_innerFails v_outerFails v_mostMarks v_unsure v_may v_mocks v_sumThen v_bits)) res) ([.ref a_this, .int x1] : List Value).toArray s 0 0 A) (F0 m 69 ls []) := by
              intro  ls H locs hl hw h
              have h := k0_at ej69_20 h
              refine lv_iconst (pc := 69) (v := 1) hx hb dX10_run_69 (by decide) ?_
              refine lv_goto (pc := 70) (tgt := 74) hx hb dX10_run_70 (by decide) ?_
              exact J74_14 1 ls _ _ (lv_sub hl [0, 1, 2, 3, 4] rfl) hw h
            refine lv_if_lt (pc := 47) (tgt := 69) hx hb dX10_run_47 (by decide) (fun hc_21 => ?_) (fun hc_21 => ?_)
            · have h := ift hc_21 h
              exact J69_20  ls _ _ (lv_sub hl [0, 1, 3, 4, 5] rfl) hw h
            · have h := iff' hc_21 h
              refine lv_iload_n (pc := 50) hx hb dX10_run_50 rfl (lv_at hl 5 rfl) ?_
              refine lv_if_eq (pc := 51) (tgt := 63) hx hb dX10_run_51 (by decide) (fun hc_22 => ?_) (fun hc_22 => ?_)
              · have h := ift hc_22 h
                refine lv_iload (pc := 63) hx hb dX10_run_63 (lv_at hl 0 rfl) ?_
                refine lv_iload_n (pc := 65) hx hb dX10_run_65 rfl (lv_at hl 3 rfl) ?_
                refine lv_icmp_ge (pc := 66) (tgt := 73) hx hb dX10_run_66 (by decide) (fun hc_23 => ?_) (fun hc_23 => ?_)
                · have h := ift hc_23 h
                  exact J73_18  ls _ _ (lv_sub hl [0, 1, 3, 4, 5] rfl) hw h
                · have h := iff' hc_23 h
                  exact J69_20  ls _ _ (lv_sub hl [0, 1, 3, 4, 5] rfl) hw h
              · have h := iff' hc_22 h
                refine lv_iload (pc := 54) hx hb dX10_run_54 (lv_at hl 0 rfl) ?_
                refine lv_iload_n (pc := 56) hx hb dX10_run_56 rfl (lv_at hl 3 rfl) ?_
                refine lv_icmp_le (pc := 57) (tgt := 73) hx hb dX10_run_57 (by decide) (fun hc_24 => ?_) (fun hc_24 => ?_)
                · have h := ift hc_24 h
                  exact J73_18  ls _ _ (lv_sub hl [0, 1, 3, 4, 5] rfl) hw h
                · have h := iff' hc_24 h
                  refine lv_goto (pc := 60) (tgt := 69) hx hb dX10_run_60 (by decide) ?_
                  exact J69_20  ls _ _ (lv_sub hl [0, 1, 3, 4, 5] rfl) hw h
        · have h := ift hc_11 h
          refine lv_goto (pc := 31) (tgt := 91) hx hb dX10_run_31 (by decide) ?_
          exact J91_9 x3_2 x2_3 ls _ _ (lv_sub hl [0, 1, 2, 3, 4] rfl) hw h
  exact Lih12_4 FU 0 (-1) (-1) ls _ _ (lv_sub hl [0, 1, 2, 3, 4] rfl) hw h
def wX10_isSign (cB cI cZ : ClassId) (av : Nat → Nat) (a_this : Nat) (v_thrown : Int32) (v_size : Int32) (v_begins : Int32) (v_entries : Int32) (v_length : Int32) (v_pressed : Int32) (v_streamFrames : Int32) (v_zeros : Int32) (v_level : Int32) (v_sum : Int32) (v_tail : Int32) (v_isPlayed : Int32) (v_found : Int32) (v_strange : Int32) (v_innerFails : Int32) (v_outerFails : Int32) (v_mostMarks : Int32) (v_unsure : Int32) (v_may : Int32) (v_mocks : Int32) (v_sumThen : Int32) (v_bits : Nat → Int32) : va_W := [oX10 a_this av v_thrown v_size v_begins v_entries v_length v_pressed v_streamFrames v_zeros v_level v_sum v_tail v_isPlayed v_found v_strange v_innerFails v_outerFails v_mostMarks v_unsure v_may v_mocks v_sumThen, ((av 13), .inl (cB, 360000, .inl v_bits))]
def fX10_isSign (v_length : Int32) (v_bits : Nat → Int32) (x1 : Int32) : Option (Int32) := jk (fun (t_1 : Int32) => if t_1 = 0 then some 0 else ob1 (fX10_taken v_length v_bits x1 24) fun r_4 => if r_4 = (8392706 : Int32) then some 1 else some 0) fun j29_2 => jk (j29_2 0) fun j28_7 => if x1 < 0 then j28_7 else if v_length < (x1 + (24 : Int32)) then j28_7 else ob1 (fX10_bit v_length v_bits x1) fun r_10 => if r_10 = (1 : Int32) then j29_2 1 else j28_7
set_option maxHeartbeats 4000000 in
set_option maxRecDepth 100000 in
theorem ct_X10_isSign (l : Launch) (D : va_G) (cB cI cZ : ClassId) (tw : Nat) (av : Nat → Nat) (a_this : Nat) (v_thrown : Int32) (v_size : Int32) (v_begins : Int32) (v_entries : Int32) (v_length : Int32) (v_pressed : Int32) (v_streamFrames : Int32) (v_zeros : Int32) (v_level : Int32) (v_sum : Int32) (v_tail : Int32) (v_isPlayed : Int32) (v_found : Int32) (v_strange : Int32) (v_innerFails : Int32) (v_outerFails : Int32) (v_mostMarks : Int32) (v_unsure : Int32) (v_may : Int32) (v_mocks : Int32) (v_sumThen : Int32) (v_bits : Nat → Int32) (x1 : Int32) (res : Int32) (h : fX10_isSign v_length v_bits x1 = some res) : Ctr l yX10_isSign cX10_isSign 3 (some .boolean) (rmK 2 45) D (tyL cB cI cZ) tw [.ref a_this, .int x1] (wX10_isSign cB cI cZ av a_this v_thrown v_size v_begins v_entries v_length v_pressed v_streamFrames v_zeros v_level v_sum v_tail v_isPlayed v_found v_strange v_innerFails v_outerFails v_mostMarks v_unsure v_may v_mocks v_sumThen v_bits) (fun res : Int32 => some (.int res)) (fun res : Int32 => (wX10_isSign cB cI cZ av a_this v_thrown v_size v_begins v_entries v_length v_pressed v_streamFrames v_zeros v_level v_sum v_tail v_isPlayed v_found v_strange v_innerFails v_outerFails v_mostMarks v_unsure v_may v_mocks v_sumThen v_bits)) res := by
  refine ctr_of RX10 (by decide) rfl (Nat.le_of_ble_eq_true rfl) ?_
  intro p e s m below meth c A C hw ls hl
  have hx := C.1
  have hb := C.2.1
  have hl : lv_has ls 3 [(0, .ref a_this), (1, .int x1)] := hl
  unfold fX10_isSign at h
  refine lv_iload_n (pc := 0) hx hb dX10_isSign_0 rfl (lv_at hl 1 rfl) ?_
  obtain ⟨j29_2, ej29_2, h⟩ := jk_at h
  have J29_2 : ∀ (t_1 : Int32) (ls : Array Slot) (H : Heap) (locs : List Loc), lv_has ls 3 [(0, .ref a_this), (1, .int x1)] → Wd D A s (wX10_isSign cB cI cZ av a_this v_thrown v_size v_begins v_entries v_length v_pressed v_streamFrames v_zeros v_level v_sum v_tail v_isPlayed v_found v_strange v_innerFails v_outerFails v_mostMarks v_unsure v_may v_mocks v_sumThen v_bits) H locs → j29_2 t_1 = some res → W p l e (rmK 2 45) s m ([.ref a_this, .int x1] : List Value).toArray below meth c H locs 0 0 (MQ below (QG D (tyL cB cI cZ) A (fun res : Int32 => some (.int res)) (fun res : Int32 => (wX10_isSign cB cI cZ av a_this v_thrown v_size v_begins v_entries v_length v_pressed v_streamFrames v_zeros v_level v_sum v_tail v_isPlayed v_found v_strange v_innerFails v_outerFails v_mostMarks v_unsure v_may v_mocks v_sumThen v_bits)) res) ([.ref a_this, .int x1] : List Value).toArray s 0 0 A) (F0 m 29 ls [.int t_1]) := by
    intro t_1 ls H locs hl hw h
    have h := k1_at ej29_2 h
    refine lv_istore_n (pc := 29) (lv' := [(2, .int t_1), (0, .ref a_this), (1, .int x1)]) hx hb dX10_isSign_29 rfl hl (by decide) rfl (fun ls hl => ?_)
    refine lv_iload_n (pc := 30) hx hb dX10_isSign_30 rfl (lv_at hl 0 rfl) ?_
    refine lv_if_eq (pc := 31) (tgt := 50) hx hb dX10_isSign_31 (by decide) (fun hc_3 => ?_) (fun hc_3 => ?_)
    · have h := ift hc_3 h
      refine lv_iconst (pc := 50) (v := 0) hx hb dX10_isSign_50 (by decide) ?_
      exact x_zret (pc := 51) (v := 0) C (Option.some.inj h) rfl rfl hw dX10_isSign_51
    · have h := iff' hc_3 h
      refine lv_aload_n (pc := 34) hx hb dX10_isSign_34 rfl (lv_at hl 1 rfl) ?_
      refine lv_iload_n (pc := 35) hx hb dX10_isSign_35 rfl (lv_at hl 2 rfl) ?_
      refine lv_bipush (pc := 36) (v := 24) hx hb dX10_isSign_36 (by decide) ?_
      obtain ⟨r_4, hq_5, h⟩ := ob1_at h
      refine x_callV (pc := 38) (rest := []) (stk := [.int r_4]) (wX10_isSign cB cI cZ av a_this v_thrown v_size v_begins v_entries v_length v_pressed v_streamFrames v_zeros v_level v_sum v_tail v_isPlayed v_found v_strange v_innerFails v_outerFails v_mostMarks v_unsure v_may v_mocks v_sumThen v_bits) C hw (ct_X10_taken l D cB cI cZ tw av a_this v_thrown v_size v_begins v_entries v_length v_pressed v_streamFrames v_zeros v_level v_sum v_tail v_isPlayed v_found v_strange v_innerFails v_outerFails v_mostMarks v_unsure v_may v_mocks v_sumThen v_bits x1 24 r_4 hq_5) cal_X10_taken tw_1345 (q0 := 0) rfl rfl [0, 1] [] 2 [] rfl rfl rfl rfl rfl rfl rfl rfl rfl rfl rfl (Nat.le_of_ble_eq_true rfl) hl.1 ⟨Nat.le_of_ble_eq_true rfl, Nat.le_of_ble_eq_true rfl⟩ ⟨Nat.zero_le _, Nat.zero_le _⟩ dX10_isSign_38 (fun H locs hw => ?_)
      refine lv_ldc (pc := 41) (own := RX10) (v := 8392706) hx hb C.2.2.2.1 (C.2.2.2.2.1 _ tw_1272) dX10_isSign_41 ?_
      refine lv_icmp_ne (pc := 43) (tgt := 50) hx hb dX10_isSign_43 (by decide) (fun hc_6 => ?_) (fun hc_6 => ?_)
      · have h := iff' hc_6 h
        refine lv_iconst (pc := 50) (v := 0) hx hb dX10_isSign_50 (by decide) ?_
        exact x_zret (pc := 51) (v := 0) C (Option.some.inj h) rfl rfl hw dX10_isSign_51
      · have h := ift hc_6 h
        refine lv_iconst (pc := 46) (v := 1) hx hb dX10_isSign_46 (by decide) ?_
        refine lv_goto (pc := 47) (tgt := 51) hx hb dX10_isSign_47 (by decide) ?_
        exact x_zret (pc := 51) (v := 1) C (Option.some.inj h) rfl rfl hw dX10_isSign_51
  obtain ⟨j28_7, ej28_7, h⟩ := jk_at h
  have J28_7 : ∀  (ls : Array Slot) (H : Heap) (locs : List Loc), lv_has ls 3 [(0, .ref a_this), (1, .int x1)] → Wd D A s (wX10_isSign cB cI cZ av a_this v_thrown v_size v_begins v_entries v_length v_pressed v_streamFrames v_zeros v_level v_sum v_tail v_isPlayed v_found v_strange v_innerFails v_outerFails v_mostMarks v_unsure v_may v_mocks v_sumThen v_bits) H locs → j28_7 = some res → W p l e (rmK 2 45) s m ([.ref a_this, .int x1] : List Value).toArray below meth c H locs 0 0 (MQ below (QG D (tyL cB cI cZ) A (fun res : Int32 => some (.int res)) (fun res : Int32 => (wX10_isSign cB cI cZ av a_this v_thrown v_size v_begins v_entries v_length v_pressed v_streamFrames v_zeros v_level v_sum v_tail v_isPlayed v_found v_strange v_innerFails v_outerFails v_mostMarks v_unsure v_may v_mocks v_sumThen v_bits)) res) ([.ref a_this, .int x1] : List Value).toArray s 0 0 A) (F0 m 28 ls []) := by
    intro  ls H locs hl hw h
    have h := k0_at ej28_7 h
    refine lv_iconst (pc := 28) (v := 0) hx hb dX10_isSign_28 (by decide) ?_
    exact J29_2 0 ls _ _ (lv_sub hl [0, 1] rfl) hw h
  refine lv_if_lt (pc := 1) (tgt := 28) hx hb dX10_isSign_1 (by decide) (fun hc_8 => ?_) (fun hc_8 => ?_)
  · have h := ift hc_8 h
    exact J28_7  ls _ _ (lv_sub hl [0, 1] rfl) hw h
  · have h := iff' hc_8 h
    refine lv_iload_n (pc := 4) hx hb dX10_isSign_4 rfl (lv_at hl 1 rfl) ?_
    refine lv_bipush (pc := 5) (v := 24) hx hb dX10_isSign_5 (by decide) ?_
    refine lv_iadd (pc := 7) hx hb dX10_isSign_7 ?_
    refine lv_aload_n (pc := 8) hx hb dX10_isSign_8 rfl (lv_at hl 0 rfl) ?_
    refine gf_X10_185 (pc := 9) C hw 0 rfl rfl dX10_isSign_9 ?_
    refine lv_icmp_gt (pc := 12) (tgt := 28) hx hb dX10_isSign_12 (by decide) (fun hc_9 => ?_) (fun hc_9 => ?_)
    · have h := ift hc_9 h
      exact J28_7  ls _ _ (lv_sub hl [0, 1] rfl) hw h
    · have h := iff' hc_9 h
      refine lv_aload_n (pc := 15) hx hb dX10_isSign_15 rfl (lv_at hl 0 rfl) ?_
      refine lv_iload_n (pc := 16) hx hb dX10_isSign_16 rfl (lv_at hl 1 rfl) ?_
      obtain ⟨r_10, hq_11, h⟩ := ob1_at h
      refine x_callV (pc := 17) (rest := []) (stk := [.int r_10]) (wX10_isSign cB cI cZ av a_this v_thrown v_size v_begins v_entries v_length v_pressed v_streamFrames v_zeros v_level v_sum v_tail v_isPlayed v_found v_strange v_innerFails v_outerFails v_mostMarks v_unsure v_may v_mocks v_sumThen v_bits) C hw (ct_X10_bit l D cB cI cZ tw av a_this v_thrown v_size v_begins v_entries v_length v_pressed v_streamFrames v_zeros v_level v_sum v_tail v_isPlayed v_found v_strange v_innerFails v_outerFails v_mostMarks v_unsure v_may v_mocks v_sumThen v_bits x1 r_10 hq_11) cal_X10_bit tw_1349 (q0 := 0) rfl rfl [0, 1] [] 2 [] rfl rfl rfl rfl rfl rfl rfl rfl rfl rfl rfl (Nat.le_of_ble_eq_true rfl) hl.1 ⟨Nat.le_of_ble_eq_true rfl, Nat.le_of_ble_eq_true rfl⟩ ⟨Nat.zero_le _, Nat.zero_le _⟩ dX10_isSign_17 (fun H locs hw => ?_)
      refine lv_iconst (pc := 20) (v := 1) hx hb dX10_isSign_20 (by decide) ?_
      refine lv_icmp_ne (pc := 21) (tgt := 28) hx hb dX10_isSign_21 (by decide) (fun hc_12 => ?_) (fun hc_12 => ?_)
      · have h := iff' hc_12 h
        exact J28_7  ls _ _ (lv_sub hl [0, 1] rfl) hw h
      · have h := ift hc_12 h
        refine lv_iconst (pc := 24) (v := 1) hx hb dX10_isSign_24 (by decide) ?_
        refine lv_goto (pc := 25) (tgt := 29) hx hb dX10_isSign_25 (by decide) ?_
        exact J29_2 1 ls _ _ (lv_sub hl [0, 1] rfl) hw h
def wX10_signs (cB cI cZ : ClassId) (av : Nat → Nat) (a_this : Nat) (v_thrown : Int32) (v_size : Int32) (v_begins : Int32) (v_entries : Int32) (v_length : Int32) (v_pressed : Int32) (v_streamFrames : Int32) (v_zeros : Int32) (v_level : Int32) (v_sum : Int32) (v_tail : Int32) (v_isPlayed : Int32) (v_found : Int32) (v_strange : Int32) (v_innerFails : Int32) (v_outerFails : Int32) (v_mostMarks : Int32) (v_unsure : Int32) (v_may : Int32) (v_mocks : Int32) (v_sumThen : Int32) (v_bits : Nat → Int32) : va_W := [oX10 a_this av v_thrown v_size v_begins v_entries v_length v_pressed v_streamFrames v_zeros v_level v_sum v_tail v_isPlayed v_found v_strange v_innerFails v_outerFails v_mostMarks v_unsure v_may v_mocks v_sumThen, ((av 13), .inl (cB, 360000, .inl v_bits))]
def fX10_signs_L9 (v_length : Int32) (v_bits : Nat → Int32) : Nat → Int32 → Int32 → Option (Int32 × Int32)
  | 0, _, _ => none
  | F9_3 + 1, x2_1, x1_2 => if v_length ≤ x2_1 then some (x1_2, 0) else ob1 (fX10_isSign v_length v_bits x2_1) fun r_5 => jk (fun (t_7 : Int32) => nm ((x1_2 + t_7) : Int32) fun x1_9 => nm (x2_1 + 1 : Int32) fun x2_10 => fX10_signs_L9 v_length v_bits F9_3 x2_10 x1_9) fun j31_8 => if r_5 = 0 then j31_8 0 else j31_8 1
def fX10_signs (v_length : Int32) (v_thrown : Int32) (v_bits : Nat → Int32) : Option (Int32 × Int32) := fX10_signs_L9 v_length v_bits FU 0 0
set_option maxHeartbeats 4000000 in
set_option maxRecDepth 100000 in
theorem ct_X10_signs (l : Launch) (D : va_G) (cB cI cZ : ClassId) (tw : Nat) (av : Nat → Nat) (a_this : Nat) (v_thrown : Int32) (v_size : Int32) (v_begins : Int32) (v_entries : Int32) (v_length : Int32) (v_pressed : Int32) (v_streamFrames : Int32) (v_zeros : Int32) (v_level : Int32) (v_sum : Int32) (v_tail : Int32) (v_isPlayed : Int32) (v_found : Int32) (v_strange : Int32) (v_innerFails : Int32) (v_outerFails : Int32) (v_mostMarks : Int32) (v_unsure : Int32) (v_may : Int32) (v_mocks : Int32) (v_sumThen : Int32) (v_bits : Nat → Int32) (res : Int32 × Int32) (h : fX10_signs v_length v_thrown v_bits = some res) : Ctr l yX10_signs cX10_signs 3 (some .int) (rmK 3 67) D (tyL cB cI cZ) tw [.ref a_this] (wX10_signs cB cI cZ av a_this v_thrown v_size v_begins v_entries v_length v_pressed v_streamFrames v_zeros v_level v_sum v_tail v_isPlayed v_found v_strange v_innerFails v_outerFails v_mostMarks v_unsure v_may v_mocks v_sumThen v_bits) (fun res : Int32 × Int32 => some (.int res.1)) (fun res : Int32 × Int32 => (wX10_signs cB cI cZ av a_this (res.2) v_size v_begins v_entries v_length v_pressed v_streamFrames v_zeros v_level v_sum v_tail v_isPlayed v_found v_strange v_innerFails v_outerFails v_mostMarks v_unsure v_may v_mocks v_sumThen v_bits)) res := by
  refine ctr_of RX10 (by decide) rfl (Nat.le_of_ble_eq_true rfl) ?_
  intro p e s m below meth c A C hw ls hl
  have hx := C.1
  have hb := C.2.1
  have hl : lv_has ls 3 [(0, .ref a_this)] := hl
  unfold fX10_signs at h
  refine lv_aload_n (pc := 0) hx hb dX10_signs_0 rfl (lv_at hl 0 rfl) ?_
  refine lv_iconst (pc := 1) (v := 0) hx hb dX10_signs_1 (by decide) ?_
  refine pf_X10_100 (pc := 2) (wX10_signs cB cI cZ av a_this 0 v_size v_begins v_entries v_length v_pressed v_streamFrames v_zeros v_level v_sum v_tail v_isPlayed v_found v_strange v_innerFails v_outerFails v_mostMarks v_unsure v_may v_mocks v_sumThen v_bits) C hw 0 rfl rfl rfl rfl (Nat.le_of_ble_eq_true rfl) dX10_signs_2 (fun H locs hw => ?_)
  refine lv_iconst (pc := 5) (v := 0) hx hb dX10_signs_5 (by decide) ?_
  refine lv_istore_n (pc := 6) (lv' := [(1, .int 0), (0, .ref a_this)]) hx hb dX10_signs_6 rfl hl (by decide) rfl (fun ls hl => ?_)
  refine lv_iconst (pc := 7) (v := 0) hx hb dX10_signs_7 (by decide) ?_
  refine lv_istore_n (pc := 8) (lv' := [(2, .int 0), (1, .int 0), (0, .ref a_this)]) hx hb dX10_signs_8 rfl hl (by decide) rfl (fun ls hl => ?_)
  have Lih9_3 : ∀ (F : Nat) (x2_1 : Int32) (x1_2 : Int32) (ls : Array Slot) (H : Heap) (locs : List Loc), lv_has ls 3 [(2, .int x2_1), (1, .int x1_2), (0, .ref a_this)] → Wd D A s (wX10_signs cB cI cZ av a_this 0 v_size v_begins v_entries v_length v_pressed v_streamFrames v_zeros v_level v_sum v_tail v_isPlayed v_found v_strange v_innerFails v_outerFails v_mostMarks v_unsure v_may v_mocks v_sumThen v_bits) H locs → fX10_signs_L9 v_length v_bits F x2_1 x1_2 = some res → W p l e (rmK 3 67) s m ([.ref a_this] : List Value).toArray below meth c H locs 0 0 (MQ below (QG D (tyL cB cI cZ) A (fun res : Int32 × Int32 => some (.int res.1)) (fun res : Int32 × Int32 => (wX10_signs cB cI cZ av a_this (res.2) v_size v_begins v_entries v_length v_pressed v_streamFrames v_zeros v_level v_sum v_tail v_isPlayed v_found v_strange v_innerFails v_outerFails v_mostMarks v_unsure v_may v_mocks v_sumThen v_bits)) res) ([.ref a_this] : List Value).toArray s 0 0 A) (F0 m 9 ls []) := by
    intro F
    induction F with
    | zero => intro x2_1 x1_2 ls H locs hl hw h; rw [fX10_signs_L9.eq_1] at h; cases h
    | succ F9_3 ih9_3 =>
      intro x2_1 x1_2 ls H locs hl hw h
      rw [fX10_signs_L9.eq_2] at h
      refine lv_iload_n (pc := 9) hx hb dX10_signs_9 rfl (lv_at hl 0 rfl) ?_
      refine lv_aload_n (pc := 10) hx hb dX10_signs_10 rfl (lv_at hl 2 rfl) ?_
      refine gf_X10_185 (pc := 11) C hw 0 rfl rfl dX10_signs_11 ?_
      refine lv_icmp_ge (pc := 14) (tgt := 39) hx hb dX10_signs_14 (by decide) (fun hc_4 => ?_) (fun hc_4 => ?_)
      · have h := ift hc_4 h
        refine lv_iload_n (pc := 39) hx hb dX10_signs_39 rfl (lv_at hl 1 rfl) ?_
        exact x_iret (pc := 40) (v := (x1_2, 0)) C (Option.some.inj h) rfl hw dX10_signs_40
      · have h := iff' hc_4 h
        refine lv_iload_n (pc := 17) hx hb dX10_signs_17 rfl (lv_at hl 1 rfl) ?_
        refine lv_aload_n (pc := 18) hx hb dX10_signs_18 rfl (lv_at hl 2 rfl) ?_
        refine lv_iload_n (pc := 19) hx hb dX10_signs_19 rfl (lv_at hl 0 rfl) ?_
        obtain ⟨r_5, hq_6, h⟩ := ob1_at h
        refine x_callV (pc := 20) (rest := [.int x1_2]) (stk := [.int r_5, .int x1_2]) (wX10_signs cB cI cZ av a_this 0 v_size v_begins v_entries v_length v_pressed v_streamFrames v_zeros v_level v_sum v_tail v_isPlayed v_found v_strange v_innerFails v_outerFails v_mostMarks v_unsure v_may v_mocks v_sumThen v_bits) C hw (ct_X10_isSign l D cB cI cZ tw av a_this 0 v_size v_begins v_entries v_length v_pressed v_streamFrames v_zeros v_level v_sum v_tail v_isPlayed v_found v_strange v_innerFails v_outerFails v_mostMarks v_unsure v_may v_mocks v_sumThen v_bits x2_1 r_5 hq_6) cal_X10_isSign tw_1376 (q0 := 0) rfl rfl [0, 1] [] 2 [] rfl rfl rfl rfl rfl rfl rfl rfl rfl rfl rfl (Nat.le_of_ble_eq_true rfl) hl.1 ⟨Nat.le_of_ble_eq_true rfl, Nat.le_of_ble_eq_true rfl⟩ ⟨Nat.zero_le _, Nat.zero_le _⟩ dX10_signs_20 (fun H locs hw => ?_)
        obtain ⟨j31_8, ej31_8, h⟩ := jk_at h
        have J31_8 : ∀ (t_7 : Int32) (ls : Array Slot) (H : Heap) (locs : List Loc), lv_has ls 3 [(2, .int x2_1), (0, .ref a_this)] → Wd D A s (wX10_signs cB cI cZ av a_this 0 v_size v_begins v_entries v_length v_pressed v_streamFrames v_zeros v_level v_sum v_tail v_isPlayed v_found v_strange v_innerFails v_outerFails v_mostMarks v_unsure v_may v_mocks v_sumThen v_bits) H locs → j31_8 t_7 = some res → W p l e (rmK 3 67) s m ([.ref a_this] : List Value).toArray below meth c H locs 0 0 (MQ below (QG D (tyL cB cI cZ) A (fun res : Int32 × Int32 => some (.int res.1)) (fun res : Int32 × Int32 => (wX10_signs cB cI cZ av a_this (res.2) v_size v_begins v_entries v_length v_pressed v_streamFrames v_zeros v_level v_sum v_tail v_isPlayed v_found v_strange v_innerFails v_outerFails v_mostMarks v_unsure v_may v_mocks v_sumThen v_bits)) res) ([.ref a_this] : List Value).toArray s 0 0 A) (F0 m 31 ls [.int t_7, .int x1_2]) := by
          intro t_7 ls H locs hl hw h
          have h := k1_at ej31_8 h
          refine lv_iadd (pc := 31) hx hb dX10_signs_31 ?_
          refine lv_topi (pc := 32) (fun x1_9 ex1_9 => ?_)
          have h := nm_at ex1_9 h
          refine lv_istore_n (pc := 32) (lv' := [(1, .int x1_9), (2, .int x2_1), (0, .ref a_this)]) hx hb dX10_signs_32 rfl hl (by decide) rfl (fun ls hl => ?_)
          obtain ⟨x2_10, ex2_10⟩ : ∃ y : Int32, y = x2_1 + 1 := ⟨_, rfl⟩
          have h := nm_at ex2_10 h
          refine lv_iinc (pc := 33) (v := x2_10) (lv' := [(2, .int x2_10), (1, .int x1_9), (0, .ref a_this)]) hx hb dX10_signs_33 hl (k := 1) rfl (by rw [ex2_10]; rfl) (by decide) rfl (fun ls hl => ?_)
          refine lv_goto (pc := 36) (tgt := 9) hx hb dX10_signs_36 (by decide) ?_
          exact ih9_3 x2_10 x1_9 ls _ _ (lv_sub hl [0, 1, 2] rfl) hw h
        refine lv_if_eq (pc := 23) (tgt := 30) hx hb dX10_signs_23 (by decide) (fun hc_11 => ?_) (fun hc_11 => ?_)
        · have h := ift hc_11 h
          refine lv_iconst (pc := 30) (v := 0) hx hb dX10_signs_30 (by decide) ?_
          exact J31_8 0 ls _ _ (lv_sub hl [0, 2] rfl) hw h
        · have h := iff' hc_11 h
          refine lv_iconst (pc := 26) (v := 1) hx hb dX10_signs_26 (by decide) ?_
          refine lv_goto (pc := 27) (tgt := 31) hx hb dX10_signs_27 (by decide) ?_
          exact J31_8 1 ls _ _ (lv_sub hl [0, 2] rfl) hw h
  exact Lih9_3 FU 0 0 ls _ _ (lv_sub hl [0, 1, 2] rfl) hw h
def wX10_signAt (cB cI cZ : ClassId) (av : Nat → Nat) (a_this : Nat) (v_thrown : Int32) (v_size : Int32) (v_begins : Int32) (v_entries : Int32) (v_length : Int32) (v_pressed : Int32) (v_streamFrames : Int32) (v_zeros : Int32) (v_level : Int32) (v_sum : Int32) (v_tail : Int32) (v_isPlayed : Int32) (v_found : Int32) (v_strange : Int32) (v_innerFails : Int32) (v_outerFails : Int32) (v_mostMarks : Int32) (v_unsure : Int32) (v_may : Int32) (v_mocks : Int32) (v_sumThen : Int32) (v_bits : Nat → Int32) : va_W := [oX10 a_this av v_thrown v_size v_begins v_entries v_length v_pressed v_streamFrames v_zeros v_level v_sum v_tail v_isPlayed v_found v_strange v_innerFails v_outerFails v_mostMarks v_unsure v_may v_mocks v_sumThen, ((av 13), .inl (cB, 360000, .inl v_bits))]
def fX10_signAt_L9 (v_length : Int32) (v_bits : Nat → Int32) (x1 : Int32) : Nat → Int32 → Int32 → Option (Int32 × Int32)
  | 0, _, _ => none
  | F9_3 + 1, x3_1, x2_2 => if v_length ≤ x3_1 then some ((-1), 0) else ob1 (fX10_isSign v_length v_bits x3_1) fun r_5 => jk (fun (x2_7 : Int32) => nm (x3_1 + 1 : Int32) fun x3_9 => fX10_signAt_L9 v_length v_bits x1 F9_3 x3_9 x2_7) fun j38_8 => if r_5 = 0 then j38_8 x2_2 else if x2_2 = x1 then some (x3_1, 0) else nm (x2_2 + 1 : Int32) fun x2_12 => j38_8 x2_12
def fX10_signAt (v_length : Int32) (v_thrown : Int32) (v_bits : Nat → Int32) (x1 : Int32) : Option (Int32 × Int32) := fX10_signAt_L9 v_length v_bits x1 FU 0 0
set_option maxHeartbeats 4000000 in
set_option maxRecDepth 100000 in
theorem ct_X10_signAt (l : Launch) (D : va_G) (cB cI cZ : ClassId) (tw : Nat) (av : Nat → Nat) (a_this : Nat) (v_thrown : Int32) (v_size : Int32) (v_begins : Int32) (v_entries : Int32) (v_length : Int32) (v_pressed : Int32) (v_streamFrames : Int32) (v_zeros : Int32) (v_level : Int32) (v_sum : Int32) (v_tail : Int32) (v_isPlayed : Int32) (v_found : Int32) (v_strange : Int32) (v_innerFails : Int32) (v_outerFails : Int32) (v_mostMarks : Int32) (v_unsure : Int32) (v_may : Int32) (v_mocks : Int32) (v_sumThen : Int32) (v_bits : Nat → Int32) (x1 : Int32) (res : Int32 × Int32) (h : fX10_signAt v_length v_thrown v_bits x1 = some res) : Ctr l yX10_signAt cX10_signAt 4 (some .int) (rmK 3 67) D (tyL cB cI cZ) tw [.ref a_this, .int x1] (wX10_signAt cB cI cZ av a_this v_thrown v_size v_begins v_entries v_length v_pressed v_streamFrames v_zeros v_level v_sum v_tail v_isPlayed v_found v_strange v_innerFails v_outerFails v_mostMarks v_unsure v_may v_mocks v_sumThen v_bits) (fun res : Int32 × Int32 => some (.int res.1)) (fun res : Int32 × Int32 => (wX10_signAt cB cI cZ av a_this (res.2) v_size v_begins v_entries v_length v_pressed v_streamFrames v_zeros v_level v_sum v_tail v_isPlayed v_found v_strange v_innerFails v_outerFails v_mostMarks v_unsure v_may v_mocks v_sumThen v_bits)) res := by
  refine ctr_of RX10 (by decide) rfl (Nat.le_of_ble_eq_true rfl) ?_
  intro p e s m below meth c A C hw ls hl
  have hx := C.1
  have hb := C.2.1
  have hl : lv_has ls 4 [(0, .ref a_this), (1, .int x1)] := hl
  unfold fX10_signAt at h
  refine lv_aload_n (pc := 0) hx hb dX10_signAt_0 rfl (lv_at hl 0 rfl) ?_
  refine lv_iconst (pc := 1) (v := 0) hx hb dX10_signAt_1 (by decide) ?_
  refine pf_X10_100 (pc := 2) (wX10_signAt cB cI cZ av a_this 0 v_size v_begins v_entries v_length v_pressed v_streamFrames v_zeros v_level v_sum v_tail v_isPlayed v_found v_strange v_innerFails v_outerFails v_mostMarks v_unsure v_may v_mocks v_sumThen v_bits) C hw 0 rfl rfl rfl rfl (Nat.le_of_ble_eq_true rfl) dX10_signAt_2 (fun H locs hw => ?_)
  refine lv_iconst (pc := 5) (v := 0) hx hb dX10_signAt_5 (by decide) ?_
  refine lv_istore_n (pc := 6) (lv' := [(2, .int 0), (0, .ref a_this), (1, .int x1)]) hx hb dX10_signAt_6 rfl hl (by decide) rfl (fun ls hl => ?_)
  refine lv_iconst (pc := 7) (v := 0) hx hb dX10_signAt_7 (by decide) ?_
  refine lv_istore_n (pc := 8) (lv' := [(3, .int 0), (2, .int 0), (0, .ref a_this), (1, .int x1)]) hx hb dX10_signAt_8 rfl hl (by decide) rfl (fun ls hl => ?_)
  have Lih9_3 : ∀ (F : Nat) (x3_1 : Int32) (x2_2 : Int32) (ls : Array Slot) (H : Heap) (locs : List Loc), lv_has ls 4 [(3, .int x3_1), (2, .int x2_2), (0, .ref a_this), (1, .int x1)] → Wd D A s (wX10_signAt cB cI cZ av a_this 0 v_size v_begins v_entries v_length v_pressed v_streamFrames v_zeros v_level v_sum v_tail v_isPlayed v_found v_strange v_innerFails v_outerFails v_mostMarks v_unsure v_may v_mocks v_sumThen v_bits) H locs → fX10_signAt_L9 v_length v_bits x1 F x3_1 x2_2 = some res → W p l e (rmK 3 67) s m ([.ref a_this, .int x1] : List Value).toArray below meth c H locs 0 0 (MQ below (QG D (tyL cB cI cZ) A (fun res : Int32 × Int32 => some (.int res.1)) (fun res : Int32 × Int32 => (wX10_signAt cB cI cZ av a_this (res.2) v_size v_begins v_entries v_length v_pressed v_streamFrames v_zeros v_level v_sum v_tail v_isPlayed v_found v_strange v_innerFails v_outerFails v_mostMarks v_unsure v_may v_mocks v_sumThen v_bits)) res) ([.ref a_this, .int x1] : List Value).toArray s 0 0 A) (F0 m 9 ls []) := by
    intro F
    induction F with
    | zero => intro x3_1 x2_2 ls H locs hl hw h; rw [fX10_signAt_L9.eq_1] at h; cases h
    | succ F9_3 ih9_3 =>
      intro x3_1 x2_2 ls H locs hl hw h
      rw [fX10_signAt_L9.eq_2] at h
      refine lv_iload_n (pc := 9) hx hb dX10_signAt_9 rfl (lv_at hl 0 rfl) ?_
      refine lv_aload_n (pc := 10) hx hb dX10_signAt_10 rfl (lv_at hl 2 rfl) ?_
      refine gf_X10_185 (pc := 11) C hw 0 rfl rfl dX10_signAt_11 ?_
      refine lv_icmp_ge (pc := 14) (tgt := 44) hx hb dX10_signAt_14 (by decide) (fun hc_4 => ?_) (fun hc_4 => ?_)
      · have h := ift hc_4 h
        refine lv_iconst (pc := 44) (v := (-1)) hx hb dX10_signAt_44 (by decide) ?_
        exact x_iret (pc := 45) (v := ((-1), 0)) C (Option.some.inj h) rfl hw dX10_signAt_45
      · have h := iff' hc_4 h
        refine lv_aload_n (pc := 17) hx hb dX10_signAt_17 rfl (lv_at hl 2 rfl) ?_
        refine lv_iload_n (pc := 18) hx hb dX10_signAt_18 rfl (lv_at hl 0 rfl) ?_
        obtain ⟨r_5, hq_6, h⟩ := ob1_at h
        refine x_callV (pc := 19) (rest := []) (stk := [.int r_5]) (wX10_signAt cB cI cZ av a_this 0 v_size v_begins v_entries v_length v_pressed v_streamFrames v_zeros v_level v_sum v_tail v_isPlayed v_found v_strange v_innerFails v_outerFails v_mostMarks v_unsure v_may v_mocks v_sumThen v_bits) C hw (ct_X10_isSign l D cB cI cZ tw av a_this 0 v_size v_begins v_entries v_length v_pressed v_streamFrames v_zeros v_level v_sum v_tail v_isPlayed v_found v_strange v_innerFails v_outerFails v_mostMarks v_unsure v_may v_mocks v_sumThen v_bits x3_1 r_5 hq_6) cal_X10_isSign tw_1376 (q0 := 0) rfl rfl [0, 1] [] 2 [] rfl rfl rfl rfl rfl rfl rfl rfl rfl rfl rfl (Nat.le_of_ble_eq_true rfl) hl.1 ⟨Nat.le_of_ble_eq_true rfl, Nat.le_of_ble_eq_true rfl⟩ ⟨Nat.zero_le _, Nat.zero_le _⟩ dX10_signAt_19 (fun H locs hw => ?_)
        obtain ⟨j38_8, ej38_8, h⟩ := jk_at h
        have J38_8 : ∀ (x2_7 : Int32) (ls : Array Slot) (H : Heap) (locs : List Loc), lv_has ls 4 [(3, .int x3_1), (2, .int x2_7), (0, .ref a_this), (1, .int x1)] → Wd D A s (wX10_signAt cB cI cZ av a_this 0 v_size v_begins v_entries v_length v_pressed v_streamFrames v_zeros v_level v_sum v_tail v_isPlayed v_found v_strange v_innerFails v_outerFails v_mostMarks v_unsure v_may v_mocks v_sumThen v_bits) H locs → j38_8 x2_7 = some res → W p l e (rmK 3 67) s m ([.ref a_this, .int x1] : List Value).toArray below meth c H locs 0 0 (MQ below (QG D (tyL cB cI cZ) A (fun res : Int32 × Int32 => some (.int res.1)) (fun res : Int32 × Int32 => (wX10_signAt cB cI cZ av a_this (res.2) v_size v_begins v_entries v_length v_pressed v_streamFrames v_zeros v_level v_sum v_tail v_isPlayed v_found v_strange v_innerFails v_outerFails v_mostMarks v_unsure v_may v_mocks v_sumThen v_bits)) res) ([.ref a_this, .int x1] : List Value).toArray s 0 0 A) (F0 m 38 ls []) := by
          intro x2_7 ls H locs hl hw h
          have h := k1_at ej38_8 h
          obtain ⟨x3_9, ex3_9⟩ : ∃ y : Int32, y = x3_1 + 1 := ⟨_, rfl⟩
          have h := nm_at ex3_9 h
          refine lv_iinc (pc := 38) (v := x3_9) (lv' := [(3, .int x3_9), (2, .int x2_7), (0, .ref a_this), (1, .int x1)]) hx hb dX10_signAt_38 hl (k := 0) rfl (by rw [ex3_9]; rfl) (by decide) rfl (fun ls hl => ?_)
          refine lv_goto (pc := 41) (tgt := 9) hx hb dX10_signAt_41 (by decide) ?_
          exact ih9_3 x3_9 x2_7 ls _ _ (lv_sub hl [0, 1, 2, 3] rfl) hw h
        refine lv_if_ne (pc := 22) (tgt := 28) hx hb dX10_signAt_22 (by decide) (fun hc_10 => ?_) (fun hc_10 => ?_)
        · have h := iff' hc_10 h
          refine lv_iload_n (pc := 28) hx hb dX10_signAt_28 rfl (lv_at hl 1 rfl) ?_
          refine lv_iload_n (pc := 29) hx hb dX10_signAt_29 rfl (lv_at hl 3 rfl) ?_
          refine lv_icmp_ne (pc := 30) (tgt := 35) hx hb dX10_signAt_30 (by decide) (fun hc_11 => ?_) (fun hc_11 => ?_)
          · have h := iff' hc_11 h
            obtain ⟨x2_12, ex2_12⟩ : ∃ y : Int32, y = x2_2 + 1 := ⟨_, rfl⟩
            have h := nm_at ex2_12 h
            refine lv_iinc (pc := 35) (v := x2_12) (lv' := [(2, .int x2_12), (3, .int x3_1), (0, .ref a_this), (1, .int x1)]) hx hb dX10_signAt_35 hl (k := 1) rfl (by rw [ex2_12]; rfl) (by decide) rfl (fun ls hl => ?_)
            exact J38_8 x2_12 ls _ _ (lv_sub hl [1, 0, 2, 3] rfl) hw h
          · have h := ift hc_11 h
            refine lv_iload_n (pc := 33) hx hb dX10_signAt_33 rfl (lv_at hl 0 rfl) ?_
            exact x_iret (pc := 34) (v := (x3_1, 0)) C (Option.some.inj h) rfl hw dX10_signAt_34
        · have h := ift hc_10 h
          refine lv_goto (pc := 25) (tgt := 38) hx hb dX10_signAt_25 (by decide) ?_
          exact J38_8 x2_2 ls _ _ (lv_sub hl [0, 1, 2, 3] rfl) hw h
  exact Lih9_3 FU 0 0 ls _ _ (lv_sub hl [0, 1, 2, 3] rfl) hw h
def wX10_flip (cB cI cZ : ClassId) (av : Nat → Nat) (a_this : Nat) (v_thrown : Int32) (v_size : Int32) (v_begins : Int32) (v_entries : Int32) (v_length : Int32) (v_pressed : Int32) (v_streamFrames : Int32) (v_zeros : Int32) (v_level : Int32) (v_sum : Int32) (v_tail : Int32) (v_isPlayed : Int32) (v_found : Int32) (v_strange : Int32) (v_innerFails : Int32) (v_outerFails : Int32) (v_mostMarks : Int32) (v_unsure : Int32) (v_may : Int32) (v_mocks : Int32) (v_sumThen : Int32) (v_bits : Nat → Int32) : va_W := [oX10 a_this av v_thrown v_size v_begins v_entries v_length v_pressed v_streamFrames v_zeros v_level v_sum v_tail v_isPlayed v_found v_strange v_innerFails v_outerFails v_mostMarks v_unsure v_may v_mocks v_sumThen, ((av 13), .inl (cB, 360000, .inl v_bits))]
def fX10_flip (v_length : Int32) (v_thrown : Int32) (v_bits : Nat → Int32) (x1 : Int32) : Option (Int32 × Int32 × (Nat → Int32)) := nt1 (fX10_in (Int32.toInt64 x1) 0 (Int32.toInt64 (v_length - (1 : Int32)))) fun r_1 => if r_1 = 0 then og (zb r_1) (some (r_1, 0, v_bits)) else og (ixb x1 360000) (og (ixb x1 360000) (nm (upd v_bits (Int32.toNatClampNeg x1) (vp_nar .byte (Int8.toInt32 (Int32.toInt8 ((1 : Int32) - (v_bits (Int32.toNatClampNeg x1))))))) fun v_bits_7 => og (zb r_1) (some (r_1, 0, v_bits_7))))
set_option maxHeartbeats 4000000 in
set_option maxRecDepth 100000 in
theorem ct_X10_flip (l : Launch) (D : va_G) (cB cI cZ : ClassId) (tw : Nat) (av : Nat → Nat) (a_this : Nat) (v_thrown : Int32) (v_size : Int32) (v_begins : Int32) (v_entries : Int32) (v_length : Int32) (v_pressed : Int32) (v_streamFrames : Int32) (v_zeros : Int32) (v_level : Int32) (v_sum : Int32) (v_tail : Int32) (v_isPlayed : Int32) (v_found : Int32) (v_strange : Int32) (v_innerFails : Int32) (v_outerFails : Int32) (v_mostMarks : Int32) (v_unsure : Int32) (v_may : Int32) (v_mocks : Int32) (v_sumThen : Int32) (v_bits : Nat → Int32) (x1 : Int32) (res : Int32 × Int32 × (Nat → Int32)) (h : fX10_flip v_length v_thrown v_bits x1 = some res) : Ctr l yX10_flip cX10_flip 3 (some .boolean) (rmK 1 25) D (tyL cB cI cZ) tw [.ref a_this, .int x1] (wX10_flip cB cI cZ av a_this v_thrown v_size v_begins v_entries v_length v_pressed v_streamFrames v_zeros v_level v_sum v_tail v_isPlayed v_found v_strange v_innerFails v_outerFails v_mostMarks v_unsure v_may v_mocks v_sumThen v_bits) (fun res : Int32 × Int32 × (Nat → Int32) => some (.int res.1)) (fun res : Int32 × Int32 × (Nat → Int32) => (wX10_flip cB cI cZ av a_this (res.2.1) v_size v_begins v_entries v_length v_pressed v_streamFrames v_zeros v_level v_sum v_tail v_isPlayed v_found v_strange v_innerFails v_outerFails v_mostMarks v_unsure v_may v_mocks v_sumThen (res.2.2))) res := by
  refine ctr_of RX10 (by decide) rfl (Nat.le_of_ble_eq_true rfl) ?_
  intro p e s m below meth c A C hw ls hl
  have hx := C.1
  have hb := C.2.1
  have hl : lv_has ls 3 [(0, .ref a_this), (1, .int x1)] := hl
  unfold fX10_flip at h
  refine lv_aload_n (pc := 0) hx hb dX10_flip_0 rfl (lv_at hl 0 rfl) ?_
  refine lv_iconst (pc := 1) (v := 0) hx hb dX10_flip_1 (by decide) ?_
  refine pf_X10_100 (pc := 2) (wX10_flip cB cI cZ av a_this 0 v_size v_begins v_entries v_length v_pressed v_streamFrames v_zeros v_level v_sum v_tail v_isPlayed v_found v_strange v_innerFails v_outerFails v_mostMarks v_unsure v_may v_mocks v_sumThen v_bits) C hw 0 rfl rfl rfl rfl (Nat.le_of_ble_eq_true rfl) dX10_flip_2 (fun H locs hw => ?_)
  refine lv_iload_n (pc := 5) hx hb dX10_flip_5 rfl (lv_at hl 1 rfl) ?_
  refine lv_i2l (pc := 6) hx hb dX10_flip_6 rfl ?_
  refine lv_lconst (pc := 7) (v := 0) hx hb dX10_flip_7 (by decide) ?_
  refine lv_aload_n (pc := 8) hx hb dX10_flip_8 rfl (lv_at hl 0 rfl) ?_
  refine gf_X10_185 (pc := 9) C hw 0 rfl rfl dX10_flip_9 ?_
  refine lv_iconst (pc := 12) (v := 1) hx hb dX10_flip_12 (by decide) ?_
  refine lv_isub (pc := 13) hx hb dX10_flip_13 ?_
  refine lv_i2l (pc := 14) hx hb dX10_flip_14 rfl ?_
  obtain ⟨r_1, hq_2, h⟩ := nt1_at h
  refine x_callS (pc := 15) (rest := []) (stk := [.int r_1]) (wX10_flip cB cI cZ av a_this 0 v_size v_begins v_entries v_length v_pressed v_streamFrames v_zeros v_level v_sum v_tail v_isPlayed v_found v_strange v_innerFails v_outerFails v_mostMarks v_unsure v_may v_mocks v_sumThen v_bits) C hw (ct_X10_in l D cB cI cZ tw av (Int32.toInt64 x1) 0 (Int32.toInt64 (v_length - (1 : Int32))) r_1 hq_2.symm) cal_X10_in tw_1176 [] [0, 1] 2 [oX10 a_this av 0 v_size v_begins v_entries v_length v_pressed v_streamFrames v_zeros v_level v_sum v_tail v_isPlayed v_found v_strange v_innerFails v_outerFails v_mostMarks v_unsure v_may v_mocks v_sumThen, ((av 13), .inl (cB, 360000, .inl v_bits))] rfl rfl rfl rfl rfl rfl rfl rfl rfl rfl rfl (Nat.le_of_ble_eq_true rfl) hl.1 ⟨Nat.le_of_ble_eq_true rfl, Nat.le_of_ble_eq_true rfl⟩ ⟨Nat.zero_le _, Nat.zero_le _⟩ dX10_flip_15 (fun H locs hw => ?_)
  refine lv_istore_n (pc := 18) (lv' := [(2, .int r_1), (0, .ref a_this), (1, .int x1)]) hx hb dX10_flip_18 rfl hl (by decide) rfl (fun ls hl => ?_)
  refine lv_iload_n (pc := 19) hx hb dX10_flip_19 rfl (lv_at hl 0 rfl) ?_
  refine lv_if_eq (pc := 20) (tgt := 38) hx hb dX10_flip_20 (by decide) (fun hc_3 => ?_) (fun hc_3 => ?_)
  · have h := ift hc_3 h
    refine lv_iload_n (pc := 38) hx hb dX10_flip_38 rfl (lv_at hl 0 rfl) ?_
    obtain ⟨hz_4, h⟩ := og_at h
    exact x_zret (pc := 39) (v := (r_1, 0, v_bits)) C (Option.some.inj h) hz_4 rfl hw dX10_flip_39
  · have h := iff' hc_3 h
    refine lv_aload_n (pc := 23) hx hb dX10_flip_23 rfl (lv_at hl 1 rfl) ?_
    refine gf_X10_39 (pc := 24) C hw 0 rfl rfl dX10_flip_24 ?_
    refine lv_iload_n (pc := 27) hx hb dX10_flip_27 rfl (lv_at hl 2 rfl) ?_
    refine lv_iconst (pc := 28) (v := 1) hx hb dX10_flip_28 (by decide) ?_
    refine lv_aload_n (pc := 29) hx hb dX10_flip_29 rfl (lv_at hl 1 rfl) ?_
    refine gf_X10_39 (pc := 30) C hw 0 rfl rfl dX10_flip_30 ?_
    refine lv_iload_n (pc := 33) hx hb dX10_flip_33 rfl (lv_at hl 2 rfl) ?_
    obtain ⟨hi_5, h⟩ := og_at h
    refine x_bald (pc := 34) C hw 1 rfl hi_5 dX10_flip_34 ?_
    refine lv_isub (pc := 35) hx hb dX10_flip_35 ?_
    refine lv_i2b (pc := 36) hx hb dX10_flip_36 rfl ?_
    obtain ⟨hi_6, h⟩ := og_at h
    obtain ⟨v_bits_7, ev_bits_7⟩ : ∃ y : Nat → Int32, y = upd v_bits (Int32.toNatClampNeg x1) (vp_nar .byte (Int8.toInt32 (Int32.toInt8 ((1 : Int32) - (v_bits (Int32.toNatClampNeg x1)))))) := ⟨_, rfl⟩
    have h := nm_at ev_bits_7 h
    refine x_bast (pc := 37) (wX10_flip cB cI cZ av a_this 0 v_size v_begins v_entries v_length v_pressed v_streamFrames v_zeros v_level v_sum v_tail v_isPlayed v_found v_strange v_innerFails v_outerFails v_mostMarks v_unsure v_may v_mocks v_sumThen v_bits_7) C hw 1 rfl hi_6 (by rw [ev_bits_7]; rfl) dX10_flip_37 (fun H locs hw => ?_)
    refine lv_iload_n (pc := 38) hx hb dX10_flip_38 rfl (lv_at hl 0 rfl) ?_
    obtain ⟨hz_8, h⟩ := og_at h
    exact x_zret (pc := 39) (v := (r_1, 0, v_bits_7)) C (Option.some.inj h) hz_8 rfl hw dX10_flip_39
def wX10_reached (cB cI cZ : ClassId) (av : Nat → Nat) (a_this : Nat) (v_thrown : Int32) (v_size : Int32) (v_begins : Int32) (v_entries : Int32) (v_length : Int32) (v_pressed : Int32) (v_streamFrames : Int32) (v_zeros : Int32) (v_level : Int32) (v_sum : Int32) (v_tail : Int32) (v_isPlayed : Int32) (v_found : Int32) (v_strange : Int32) (v_innerFails : Int32) (v_outerFails : Int32) (v_mostMarks : Int32) (v_unsure : Int32) (v_may : Int32) (v_mocks : Int32) (v_sumThen : Int32) : va_W := [oX10 a_this av v_thrown v_size v_begins v_entries v_length v_pressed v_streamFrames v_zeros v_level v_sum v_tail v_isPlayed v_found v_strange v_innerFails v_outerFails v_mostMarks v_unsure v_may v_mocks v_sumThen]
def fX10_reached (v_length : Int32) (x1 : Int32) (x2 : Int32) : Int32 := nm (((588 : Int64) * (Int32.toInt64 x1)) : Int64) fun x3_1 => nt1 (fX10_in x3_1 0 (Int32.toInt64 (v_length - (1 : Int32)))) fun r_2 => if r_2 = 0 then (-1) else nt1 (fX10_in (Int32.toInt64 x2) 0 600) fun r_5 => if r_5 = 0 then (-1) else (if (v_length - ((588 : Int32) * x1)) < ((588 : Int32) * x2) then (v_length - ((588 : Int32) * x1)) else ((588 : Int32) * x2) : Int32)
set_option maxHeartbeats 4000000 in
set_option maxRecDepth 100000 in
theorem ct_X10_reached (l : Launch) (D : va_G) (cB cI cZ : ClassId) (tw : Nat) (av : Nat → Nat) (a_this : Nat) (v_thrown : Int32) (v_size : Int32) (v_begins : Int32) (v_entries : Int32) (v_length : Int32) (v_pressed : Int32) (v_streamFrames : Int32) (v_zeros : Int32) (v_level : Int32) (v_sum : Int32) (v_tail : Int32) (v_isPlayed : Int32) (v_found : Int32) (v_strange : Int32) (v_innerFails : Int32) (v_outerFails : Int32) (v_mostMarks : Int32) (v_unsure : Int32) (v_may : Int32) (v_mocks : Int32) (v_sumThen : Int32) (x1 : Int32) (x2 : Int32) (res : Int32) (h : fX10_reached v_length x1 x2 = res) : Ctr l yX10_reached cX10_reached 5 (some .int) (rmK 1 25) D (tyL cB cI cZ) tw [.ref a_this, .int x1, .int x2] (wX10_reached cB cI cZ av a_this v_thrown v_size v_begins v_entries v_length v_pressed v_streamFrames v_zeros v_level v_sum v_tail v_isPlayed v_found v_strange v_innerFails v_outerFails v_mostMarks v_unsure v_may v_mocks v_sumThen) (fun res : Int32 => some (.int res)) (fun res : Int32 => (wX10_reached cB cI cZ av a_this v_thrown v_size v_begins v_entries v_length v_pressed v_streamFrames v_zeros v_level v_sum v_tail v_isPlayed v_found v_strange v_innerFails v_outerFails v_mostMarks v_unsure v_may v_mocks v_sumThen)) res := by
  refine ctr_of RX10 (by decide) rfl (Nat.le_of_ble_eq_true rfl) ?_
  intro p e s m below meth c A C hw ls hl
  have hx := C.1
  have hb := C.2.1
  have hl : lv_has ls 5 [(0, .ref a_this), (1, .int x1), (2, .int x2)] := hl
  unfold fX10_reached at h
  refine lv_ldc2 (pc := 0) (own := RX10) (v := 588) hx hb C.2.2.2.1 (C.2.2.2.2.1 _ tw_1396) dX10_reached_0 ?_
  refine lv_iload_n (pc := 3) hx hb dX10_reached_3 rfl (lv_at hl 1 rfl) ?_
  refine lv_i2l (pc := 4) hx hb dX10_reached_4 rfl ?_
  refine lv_lmul (pc := 5) hx hb dX10_reached_5 ?_
  refine lv_topl (pc := 6) (fun x3_1 ex3_1 => ?_)
  have h := nm_at ex3_1 h
  refine lv_lstore_n (pc := 6) (lv' := [(3, .long x3_1), (0, .ref a_this), (1, .int x1), (2, .int x2)]) hx hb dX10_reached_6 rfl hl (by decide) rfl (fun ls hl => ?_)
  refine lv_lload_n (pc := 7) hx hb dX10_reached_7 rfl (lv_at hl 0 rfl) ?_
  refine lv_lconst (pc := 8) (v := 0) hx hb dX10_reached_8 (by decide) ?_
  refine lv_aload_n (pc := 9) hx hb dX10_reached_9 rfl (lv_at hl 1 rfl) ?_
  refine gf_X10_185 (pc := 10) C hw 0 rfl rfl dX10_reached_10 ?_
  refine lv_iconst (pc := 13) (v := 1) hx hb dX10_reached_13 (by decide) ?_
  refine lv_isub (pc := 14) hx hb dX10_reached_14 ?_
  refine lv_i2l (pc := 15) hx hb dX10_reached_15 rfl ?_
  obtain ⟨r_2, hq_3, h⟩ := nt1_at h
  refine x_callS (pc := 16) (rest := []) (stk := [.int r_2]) (wX10_reached cB cI cZ av a_this v_thrown v_size v_begins v_entries v_length v_pressed v_streamFrames v_zeros v_level v_sum v_tail v_isPlayed v_found v_strange v_innerFails v_outerFails v_mostMarks v_unsure v_may v_mocks v_sumThen) C hw (ct_X10_in l D cB cI cZ tw av x3_1 0 (Int32.toInt64 (v_length - (1 : Int32))) r_2 hq_3.symm) cal_X10_in tw_1176 [] [0] 1 [oX10 a_this av v_thrown v_size v_begins v_entries v_length v_pressed v_streamFrames v_zeros v_level v_sum v_tail v_isPlayed v_found v_strange v_innerFails v_outerFails v_mostMarks v_unsure v_may v_mocks v_sumThen] rfl rfl rfl rfl rfl rfl rfl rfl rfl rfl rfl (Nat.le_of_ble_eq_true rfl) hl.1 ⟨Nat.le_of_ble_eq_true rfl, Nat.le_of_ble_eq_true rfl⟩ ⟨Nat.zero_le _, Nat.zero_le _⟩ dX10_reached_16 (fun H locs hw => ?_)
  refine lv_if_eq (pc := 19) (tgt := 34) hx hb dX10_reached_19 (by decide) (fun hc_4 => ?_) (fun hc_4 => ?_)
  · have h := ift hc_4 h
    refine lv_iconst (pc := 34) (v := (-1)) hx hb dX10_reached_34 (by decide) ?_
    exact x_iret (pc := 35) (v := (-1)) C h rfl hw dX10_reached_35
  · have h := iff' hc_4 h
    refine lv_iload_n (pc := 22) hx hb dX10_reached_22 rfl (lv_at hl 3 rfl) ?_
    refine lv_i2l (pc := 23) hx hb dX10_reached_23 rfl ?_
    refine lv_lconst (pc := 24) (v := 0) hx hb dX10_reached_24 (by decide) ?_
    refine lv_ldc2 (pc := 25) (own := RX10) (v := 600) hx hb C.2.2.2.1 (C.2.2.2.2.1 _ tw_1397) dX10_reached_25 ?_
    obtain ⟨r_5, hq_6, h⟩ := nt1_at h
    refine x_callS (pc := 28) (rest := []) (stk := [.int r_5]) (wX10_reached cB cI cZ av a_this v_thrown v_size v_begins v_entries v_length v_pressed v_streamFrames v_zeros v_level v_sum v_tail v_isPlayed v_found v_strange v_innerFails v_outerFails v_mostMarks v_unsure v_may v_mocks v_sumThen) C hw (ct_X10_in l D cB cI cZ tw av (Int32.toInt64 x2) 0 600 r_5 hq_6.symm) cal_X10_in tw_1176 [] [0] 1 [oX10 a_this av v_thrown v_size v_begins v_entries v_length v_pressed v_streamFrames v_zeros v_level v_sum v_tail v_isPlayed v_found v_strange v_innerFails v_outerFails v_mostMarks v_unsure v_may v_mocks v_sumThen] rfl rfl rfl rfl rfl rfl rfl rfl rfl rfl rfl (Nat.le_of_ble_eq_true rfl) hl.1 ⟨Nat.le_of_ble_eq_true rfl, Nat.le_of_ble_eq_true rfl⟩ ⟨Nat.zero_le _, Nat.zero_le _⟩ dX10_reached_28 (fun H locs hw => ?_)
    refine lv_if_ne (pc := 31) (tgt := 36) hx hb dX10_reached_31 (by decide) (fun hc_7 => ?_) (fun hc_7 => ?_)
    · have h := iff' hc_7 h
      refine lv_sipush (pc := 36) (v := 588) hx hb dX10_reached_36 (by decide) ?_
      refine lv_iload_n (pc := 39) hx hb dX10_reached_39 rfl (lv_at hl 3 rfl) ?_
      refine lv_imul (pc := 40) hx hb dX10_reached_40 ?_
      refine lv_aload_n (pc := 41) hx hb dX10_reached_41 rfl (lv_at hl 1 rfl) ?_
      refine gf_X10_185 (pc := 42) C hw 0 rfl rfl dX10_reached_42 ?_
      refine lv_sipush (pc := 45) (v := 588) hx hb dX10_reached_45 (by decide) ?_
      refine lv_iload_n (pc := 48) hx hb dX10_reached_48 rfl (lv_at hl 2 rfl) ?_
      refine lv_imul (pc := 49) hx hb dX10_reached_49 ?_
      refine lv_isub (pc := 50) hx hb dX10_reached_50 ?_
      refine va_mmin (pc := 51) (own := RX10) hx hb (C.2.2.1.trans hl.1.symm) C.2.2.2.1 (C.2.2.2.2.1 _ tw_1398) (C.2.2.2.2.1 _ tw_623) (C.2.2.2.2.1 _ tw_14) (C.2.2.2.2.1 _ tw_624) (Nat.le_of_ble_eq_true rfl) (Nat.le_of_ble_eq_true rfl) (Nat.zero_le _) (Nat.zero_le _) dX10_reached_51 ?_
      exact x_iret (pc := 54) (v := (if (v_length - ((588 : Int32) * x1)) < ((588 : Int32) * x2) then (v_length - ((588 : Int32) * x1)) else ((588 : Int32) * x2) : Int32)) C h rfl hw dX10_reached_54
    · have h := ift hc_7 h
      refine lv_iconst (pc := 34) (v := (-1)) hx hb dX10_reached_34 (by decide) ?_
      exact x_iret (pc := 35) (v := (-1)) C h rfl hw dX10_reached_35
def wX10_scratch (cB cI cZ : ClassId) (av : Nat → Nat) (a_this : Nat) (v_thrown : Int32) (v_size : Int32) (v_begins : Int32) (v_entries : Int32) (v_length : Int32) (v_pressed : Int32) (v_streamFrames : Int32) (v_zeros : Int32) (v_level : Int32) (v_sum : Int32) (v_tail : Int32) (v_isPlayed : Int32) (v_found : Int32) (v_strange : Int32) (v_innerFails : Int32) (v_outerFails : Int32) (v_mostMarks : Int32) (v_unsure : Int32) (v_may : Int32) (v_mocks : Int32) (v_sumThen : Int32) (v_bits : Nat → Int32) : va_W := [oX10 a_this av v_thrown v_size v_begins v_entries v_length v_pressed v_streamFrames v_zeros v_level v_sum v_tail v_isPlayed v_found v_strange v_innerFails v_outerFails v_mostMarks v_unsure v_may v_mocks v_sumThen, ((av 13), .inl (cB, 360000, .inl v_bits))]
def fX10_scratch_L15 (r_1 : Int32) (x1 : Int32) : Nat → Int32 → (Nat → Int32) → Option (Int32 × Int32 × (Nat → Int32))
  | 0, _, _ => none
  | F15_5 + 1, x4_3, v_bits_4 => if r_1 ≤ x4_3 then some (r_1, 0, v_bits_4) else og (ixb (((588 : Int32) * x1) + x4_3) 360000) (nm (upd v_bits_4 (Int32.toNatClampNeg (((588 : Int32) * x1) + x4_3)) (vp_nar .byte 0)) fun v_bits_8 => nm (x4_3 + 1 : Int32) fun x4_9 => fX10_scratch_L15 r_1 x1 F15_5 x4_9 v_bits_8)
def fX10_scratch (v_length : Int32) (v_thrown : Int32) (v_bits : Nat → Int32) (x1 : Int32) (x2 : Int32) : Option (Int32 × Int32 × (Nat → Int32)) := nt1 (fX10_reached v_length x1 x2) fun r_1 => fX10_scratch_L15 r_1 x1 FU 0 v_bits
set_option maxHeartbeats 4000000 in
set_option maxRecDepth 100000 in
theorem ct_X10_scratch (l : Launch) (D : va_G) (cB cI cZ : ClassId) (tw : Nat) (av : Nat → Nat) (a_this : Nat) (v_thrown : Int32) (v_size : Int32) (v_begins : Int32) (v_entries : Int32) (v_length : Int32) (v_pressed : Int32) (v_streamFrames : Int32) (v_zeros : Int32) (v_level : Int32) (v_sum : Int32) (v_tail : Int32) (v_isPlayed : Int32) (v_found : Int32) (v_strange : Int32) (v_innerFails : Int32) (v_outerFails : Int32) (v_mostMarks : Int32) (v_unsure : Int32) (v_may : Int32) (v_mocks : Int32) (v_sumThen : Int32) (v_bits : Nat → Int32) (x1 : Int32) (x2 : Int32) (res : Int32 × Int32 × (Nat → Int32)) (h : fX10_scratch v_length v_thrown v_bits x1 x2 = some res) : Ctr l yX10_scratch cX10_scratch 5 (some .int) (rmK 2 49) D (tyL cB cI cZ) tw [.ref a_this, .int x1, .int x2] (wX10_scratch cB cI cZ av a_this v_thrown v_size v_begins v_entries v_length v_pressed v_streamFrames v_zeros v_level v_sum v_tail v_isPlayed v_found v_strange v_innerFails v_outerFails v_mostMarks v_unsure v_may v_mocks v_sumThen v_bits) (fun res : Int32 × Int32 × (Nat → Int32) => some (.int res.1)) (fun res : Int32 × Int32 × (Nat → Int32) => (wX10_scratch cB cI cZ av a_this (res.2.1) v_size v_begins v_entries v_length v_pressed v_streamFrames v_zeros v_level v_sum v_tail v_isPlayed v_found v_strange v_innerFails v_outerFails v_mostMarks v_unsure v_may v_mocks v_sumThen (res.2.2))) res := by
  refine ctr_of RX10 (by decide) rfl (Nat.le_of_ble_eq_true rfl) ?_
  intro p e s m below meth c A C hw ls hl
  have hx := C.1
  have hb := C.2.1
  have hl : lv_has ls 5 [(0, .ref a_this), (1, .int x1), (2, .int x2)] := hl
  unfold fX10_scratch at h
  refine lv_aload_n (pc := 0) hx hb dX10_scratch_0 rfl (lv_at hl 0 rfl) ?_
  refine lv_iconst (pc := 1) (v := 0) hx hb dX10_scratch_1 (by decide) ?_
  refine pf_X10_100 (pc := 2) (wX10_scratch cB cI cZ av a_this 0 v_size v_begins v_entries v_length v_pressed v_streamFrames v_zeros v_level v_sum v_tail v_isPlayed v_found v_strange v_innerFails v_outerFails v_mostMarks v_unsure v_may v_mocks v_sumThen v_bits) C hw 0 rfl rfl rfl rfl (Nat.le_of_ble_eq_true rfl) dX10_scratch_2 (fun H locs hw => ?_)
  refine lv_aload_n (pc := 5) hx hb dX10_scratch_5 rfl (lv_at hl 0 rfl) ?_
  refine lv_iload_n (pc := 6) hx hb dX10_scratch_6 rfl (lv_at hl 1 rfl) ?_
  refine lv_iload_n (pc := 7) hx hb dX10_scratch_7 rfl (lv_at hl 2 rfl) ?_
  obtain ⟨r_1, hq_2, h⟩ := nt1_at h
  refine x_callV (pc := 8) (rest := []) (stk := [.int r_1]) (wX10_scratch cB cI cZ av a_this 0 v_size v_begins v_entries v_length v_pressed v_streamFrames v_zeros v_level v_sum v_tail v_isPlayed v_found v_strange v_innerFails v_outerFails v_mostMarks v_unsure v_may v_mocks v_sumThen v_bits) C hw (ct_X10_reached l D cB cI cZ tw av a_this 0 v_size v_begins v_entries v_length v_pressed v_streamFrames v_zeros v_level v_sum v_tail v_isPlayed v_found v_strange v_innerFails v_outerFails v_mostMarks v_unsure v_may v_mocks v_sumThen x1 x2 r_1 hq_2.symm) cal_X10_reached tw_1392 (q0 := 0) rfl rfl [0] [1] 2 [((av 13), .inl (cB, 360000, .inl v_bits))] rfl rfl rfl rfl rfl rfl rfl rfl rfl rfl rfl (Nat.le_of_ble_eq_true rfl) hl.1 ⟨Nat.le_of_ble_eq_true rfl, Nat.le_of_ble_eq_true rfl⟩ ⟨Nat.zero_le _, Nat.zero_le _⟩ dX10_scratch_8 (fun H locs hw => ?_)
  refine lv_istore_n (pc := 11) (lv' := [(3, .int r_1), (0, .ref a_this), (1, .int x1), (2, .int x2)]) hx hb dX10_scratch_11 rfl hl (by decide) rfl (fun ls hl => ?_)
  refine lv_iconst (pc := 12) (v := 0) hx hb dX10_scratch_12 (by decide) ?_
  refine lv_istore (pc := 13) (lv' := [(4, .int 0), (3, .int r_1), (0, .ref a_this), (1, .int x1), (2, .int x2)]) hx hb dX10_scratch_13 hl (by decide) rfl (fun ls hl => ?_)
  have Lih15_5 : ∀ (F : Nat) (x4_3 : Int32) (v_bits_4 : Nat → Int32) (ls : Array Slot) (H : Heap) (locs : List Loc), lv_has ls 5 [(4, .int x4_3), (3, .int r_1), (0, .ref a_this), (1, .int x1)] → Wd D A s (wX10_scratch cB cI cZ av a_this 0 v_size v_begins v_entries v_length v_pressed v_streamFrames v_zeros v_level v_sum v_tail v_isPlayed v_found v_strange v_innerFails v_outerFails v_mostMarks v_unsure v_may v_mocks v_sumThen v_bits_4) H locs → fX10_scratch_L15 r_1 x1 F x4_3 v_bits_4 = some res → W p l e (rmK 2 49) s m ([.ref a_this, .int x1, .int x2] : List Value).toArray below meth c H locs 0 0 (MQ below (QG D (tyL cB cI cZ) A (fun res : Int32 × Int32 × (Nat → Int32) => some (.int res.1)) (fun res : Int32 × Int32 × (Nat → Int32) => (wX10_scratch cB cI cZ av a_this (res.2.1) v_size v_begins v_entries v_length v_pressed v_streamFrames v_zeros v_level v_sum v_tail v_isPlayed v_found v_strange v_innerFails v_outerFails v_mostMarks v_unsure v_may v_mocks v_sumThen (res.2.2))) res) ([.ref a_this, .int x1, .int x2] : List Value).toArray s 0 0 A) (F0 m 15 ls []) := by
    intro F
    induction F with
    | zero => intro x4_3 v_bits_4 ls H locs hl hw h; rw [fX10_scratch_L15.eq_1] at h; cases h
    | succ F15_5 ih15_5 =>
      intro x4_3 v_bits_4 ls H locs hl hw h
      rw [fX10_scratch_L15.eq_2] at h
      refine lv_iload (pc := 15) hx hb dX10_scratch_15 (lv_at hl 0 rfl) ?_
      refine lv_iload_n (pc := 17) hx hb dX10_scratch_17 rfl (lv_at hl 1 rfl) ?_
      refine lv_icmp_ge (pc := 18) (tgt := 41) hx hb dX10_scratch_18 (by decide) (fun hc_6 => ?_) (fun hc_6 => ?_)
      · have h := ift hc_6 h
        refine lv_iload_n (pc := 41) hx hb dX10_scratch_41 rfl (lv_at hl 1 rfl) ?_
        exact x_iret (pc := 42) (v := (r_1, 0, v_bits_4)) C (Option.some.inj h) rfl hw dX10_scratch_42
      · have h := iff' hc_6 h
        refine lv_aload_n (pc := 21) hx hb dX10_scratch_21 rfl (lv_at hl 2 rfl) ?_
        refine gf_X10_39 (pc := 22) C hw 0 rfl rfl dX10_scratch_22 ?_
        refine lv_sipush (pc := 25) (v := 588) hx hb dX10_scratch_25 (by decide) ?_
        refine lv_iload_n (pc := 28) hx hb dX10_scratch_28 rfl (lv_at hl 3 rfl) ?_
        refine lv_imul (pc := 29) hx hb dX10_scratch_29 ?_
        refine lv_iload (pc := 30) hx hb dX10_scratch_30 (lv_at hl 0 rfl) ?_
        refine lv_iadd (pc := 32) hx hb dX10_scratch_32 ?_
        refine lv_iconst (pc := 33) (v := 0) hx hb dX10_scratch_33 (by decide) ?_
        obtain ⟨hi_7, h⟩ := og_at h
        obtain ⟨v_bits_8, ev_bits_8⟩ : ∃ y : Nat → Int32, y = upd v_bits_4 (Int32.toNatClampNeg (((588 : Int32) * x1) + x4_3)) (vp_nar .byte 0) := ⟨_, rfl⟩
        have h := nm_at ev_bits_8 h
        refine x_bast (pc := 34) (wX10_scratch cB cI cZ av a_this 0 v_size v_begins v_entries v_length v_pressed v_streamFrames v_zeros v_level v_sum v_tail v_isPlayed v_found v_strange v_innerFails v_outerFails v_mostMarks v_unsure v_may v_mocks v_sumThen v_bits_8) C hw 1 rfl hi_7 (by rw [ev_bits_8]; rfl) dX10_scratch_34 (fun H locs hw => ?_)
        obtain ⟨x4_9, ex4_9⟩ : ∃ y : Int32, y = x4_3 + 1 := ⟨_, rfl⟩
        have h := nm_at ex4_9 h
        refine lv_iinc (pc := 35) (v := x4_9) (lv' := [(4, .int x4_9), (3, .int r_1), (0, .ref a_this), (1, .int x1)]) hx hb dX10_scratch_35 hl (k := 0) rfl (by rw [ex4_9]; rfl) (by decide) rfl (fun ls hl => ?_)
        refine lv_goto (pc := 38) (tgt := 15) hx hb dX10_scratch_38 (by decide) ?_
        exact ih15_5 x4_9 v_bits_8 ls _ _ (lv_sub hl [0, 1, 2, 3] rfl) hw h
  exact Lih15_5 FU 0 v_bits ls _ _ (lv_sub hl [0, 1, 2, 3] rfl) hw h
def wX10_noise (cB cI cZ : ClassId) (av : Nat → Nat) (a_this : Nat) (v_thrown : Int32) (v_size : Int32) (v_begins : Int32) (v_entries : Int32) (v_length : Int32) (v_pressed : Int32) (v_streamFrames : Int32) (v_zeros : Int32) (v_level : Int32) (v_sum : Int32) (v_tail : Int32) (v_isPlayed : Int32) (v_found : Int32) (v_strange : Int32) (v_innerFails : Int32) (v_outerFails : Int32) (v_mostMarks : Int32) (v_unsure : Int32) (v_may : Int32) (v_mocks : Int32) (v_sumThen : Int32) (v_bits : Nat → Int32) : va_W := [oX10 a_this av v_thrown v_size v_begins v_entries v_length v_pressed v_streamFrames v_zeros v_level v_sum v_tail v_isPlayed v_found v_strange v_innerFails v_outerFails v_mostMarks v_unsure v_may v_mocks v_sumThen, ((av 13), .inl (cB, 360000, .inl v_bits))]
def fX10_noise_L29 (r_1 : Int32) (x1 : Int32) : Nat → Int32 → Int32 → Int32 → (Nat → Int32) → Option (Int32 × Int32 × (Nat → Int32))
  | 0, _, _, _, _ => none
  | F29_8 + 1, x7_4, x6_5, x5_6, v_bits_7 => if r_1 ≤ x7_4 then some (x6_5, 0, v_bits_7) else nm (((x5_6 * (1664525 : Int32)) + (1013904223 : Int32)) : Int32) fun x5_10 => jk (fun (x6_11 : Int32) (v_bits_12 : Nat → Int32) => nm (x7_4 + 1 : Int32) fun x7_14 => fX10_noise_L29 r_1 x1 F29_8 x7_14 x6_11 x5_10 v_bits_12) fun j86_13 => if x5_10 < 0 then og (ixb (((588 : Int32) * x1) + x7_4) 360000) (og (ixb (((588 : Int32) * x1) + x7_4) 360000) (nm (upd v_bits_7 (Int32.toNatClampNeg (((588 : Int32) * x1) + x7_4)) (vp_nar .byte (Int8.toInt32 (Int32.toInt8 ((1 : Int32) - (v_bits_7 (Int32.toNatClampNeg (((588 : Int32) * x1) + x7_4)))))))) fun v_bits_18 => nm (x6_5 + 1 : Int32) fun x6_19 => j86_13 x6_19 v_bits_18)) else j86_13 x6_5 v_bits_7
def fX10_noise (v_length : Int32) (v_thrown : Int32) (v_bits : Nat → Int32) (x1 : Int32) (x2 : Int32) (x3 : Int32) : Option (Int32 × Int32 × (Nat → Int32)) := nt1 (fX10_reached v_length x1 x2) fun r_1 => if 0 ≤ r_1 then fX10_noise_L29 r_1 x1 FU 0 0 x3 v_bits else some ((-1), 0, v_bits)
set_option maxHeartbeats 4000000 in
set_option maxRecDepth 100000 in
theorem ct_X10_noise (l : Launch) (D : va_G) (cB cI cZ : ClassId) (tw : Nat) (av : Nat → Nat) (a_this : Nat) (v_thrown : Int32) (v_size : Int32) (v_begins : Int32) (v_entries : Int32) (v_length : Int32) (v_pressed : Int32) (v_streamFrames : Int32) (v_zeros : Int32) (v_level : Int32) (v_sum : Int32) (v_tail : Int32) (v_isPlayed : Int32) (v_found : Int32) (v_strange : Int32) (v_innerFails : Int32) (v_outerFails : Int32) (v_mostMarks : Int32) (v_unsure : Int32) (v_may : Int32) (v_mocks : Int32) (v_sumThen : Int32) (v_bits : Nat → Int32) (x1 : Int32) (x2 : Int32) (x3 : Int32) (res : Int32 × Int32 × (Nat → Int32)) (h : fX10_noise v_length v_thrown v_bits x1 x2 x3 = some res) : Ctr l yX10_noise cX10_noise 8 (some .int) (rmK 2 49) D (tyL cB cI cZ) tw [.ref a_this, .int x1, .int x2, .int x3] (wX10_noise cB cI cZ av a_this v_thrown v_size v_begins v_entries v_length v_pressed v_streamFrames v_zeros v_level v_sum v_tail v_isPlayed v_found v_strange v_innerFails v_outerFails v_mostMarks v_unsure v_may v_mocks v_sumThen v_bits) (fun res : Int32 × Int32 × (Nat → Int32) => some (.int res.1)) (fun res : Int32 × Int32 × (Nat → Int32) => (wX10_noise cB cI cZ av a_this (res.2.1) v_size v_begins v_entries v_length v_pressed v_streamFrames v_zeros v_level v_sum v_tail v_isPlayed v_found v_strange v_innerFails v_outerFails v_mostMarks v_unsure v_may v_mocks v_sumThen (res.2.2))) res := by
  refine ctr_of RX10 (by decide) rfl (Nat.le_of_ble_eq_true rfl) ?_
  intro p e s m below meth c A C hw ls hl
  have hx := C.1
  have hb := C.2.1
  have hl : lv_has ls 8 [(0, .ref a_this), (1, .int x1), (2, .int x2), (3, .int x3)] := hl
  unfold fX10_noise at h
  refine lv_aload_n (pc := 0) hx hb dX10_noise_0 rfl (lv_at hl 0 rfl) ?_
  refine lv_iconst (pc := 1) (v := 0) hx hb dX10_noise_1 (by decide) ?_
  refine pf_X10_100 (pc := 2) (wX10_noise cB cI cZ av a_this 0 v_size v_begins v_entries v_length v_pressed v_streamFrames v_zeros v_level v_sum v_tail v_isPlayed v_found v_strange v_innerFails v_outerFails v_mostMarks v_unsure v_may v_mocks v_sumThen v_bits) C hw 0 rfl rfl rfl rfl (Nat.le_of_ble_eq_true rfl) dX10_noise_2 (fun H locs hw => ?_)
  refine lv_aload_n (pc := 5) hx hb dX10_noise_5 rfl (lv_at hl 0 rfl) ?_
  refine lv_iload_n (pc := 6) hx hb dX10_noise_6 rfl (lv_at hl 1 rfl) ?_
  refine lv_iload_n (pc := 7) hx hb dX10_noise_7 rfl (lv_at hl 2 rfl) ?_
  obtain ⟨r_1, hq_2, h⟩ := nt1_at h
  refine x_callV (pc := 8) (rest := []) (stk := [.int r_1]) (wX10_noise cB cI cZ av a_this 0 v_size v_begins v_entries v_length v_pressed v_streamFrames v_zeros v_level v_sum v_tail v_isPlayed v_found v_strange v_innerFails v_outerFails v_mostMarks v_unsure v_may v_mocks v_sumThen v_bits) C hw (ct_X10_reached l D cB cI cZ tw av a_this 0 v_size v_begins v_entries v_length v_pressed v_streamFrames v_zeros v_level v_sum v_tail v_isPlayed v_found v_strange v_innerFails v_outerFails v_mostMarks v_unsure v_may v_mocks v_sumThen x1 x2 r_1 hq_2.symm) cal_X10_reached tw_1392 (q0 := 0) rfl rfl [0] [1] 2 [((av 13), .inl (cB, 360000, .inl v_bits))] rfl rfl rfl rfl rfl rfl rfl rfl rfl rfl rfl (Nat.le_of_ble_eq_true rfl) hl.1 ⟨Nat.le_of_ble_eq_true rfl, Nat.le_of_ble_eq_true rfl⟩ ⟨Nat.zero_le _, Nat.zero_le _⟩ dX10_noise_8 (fun H locs hw => ?_)
  refine lv_istore (pc := 11) (lv' := [(4, .int r_1), (0, .ref a_this), (1, .int x1), (2, .int x2), (3, .int x3)]) hx hb dX10_noise_11 hl (by decide) rfl (fun ls hl => ?_)
  refine lv_iload (pc := 13) hx hb dX10_noise_13 (lv_at hl 0 rfl) ?_
  refine lv_if_ge (pc := 15) (tgt := 20) hx hb dX10_noise_15 (by decide) (fun hc_3 => ?_) (fun hc_3 => ?_)
  · have h := ift hc_3 h
    refine lv_iload_n (pc := 20) hx hb dX10_noise_20 rfl (lv_at hl 4 rfl) ?_
    refine lv_istore (pc := 21) (lv' := [(5, .int x3), (4, .int r_1), (0, .ref a_this), (1, .int x1), (2, .int x2), (3, .int x3)]) hx hb dX10_noise_21 hl (by decide) rfl (fun ls hl => ?_)
    refine lv_iconst (pc := 23) (v := 0) hx hb dX10_noise_23 (by decide) ?_
    refine lv_istore (pc := 24) (lv' := [(6, .int 0), (5, .int x3), (4, .int r_1), (0, .ref a_this), (1, .int x1), (2, .int x2), (3, .int x3)]) hx hb dX10_noise_24 hl (by decide) rfl (fun ls hl => ?_)
    refine lv_iconst (pc := 26) (v := 0) hx hb dX10_noise_26 (by decide) ?_
    refine lv_istore (pc := 27) (lv' := [(7, .int 0), (6, .int 0), (5, .int x3), (4, .int r_1), (0, .ref a_this), (1, .int x1), (2, .int x2), (3, .int x3)]) hx hb dX10_noise_27 hl (by decide) rfl (fun ls hl => ?_)
    have Lih29_8 : ∀ (F : Nat) (x7_4 : Int32) (x6_5 : Int32) (x5_6 : Int32) (v_bits_7 : Nat → Int32) (ls : Array Slot) (H : Heap) (locs : List Loc), lv_has ls 8 [(7, .int x7_4), (6, .int x6_5), (5, .int x5_6), (4, .int r_1), (0, .ref a_this), (1, .int x1)] → Wd D A s (wX10_noise cB cI cZ av a_this 0 v_size v_begins v_entries v_length v_pressed v_streamFrames v_zeros v_level v_sum v_tail v_isPlayed v_found v_strange v_innerFails v_outerFails v_mostMarks v_unsure v_may v_mocks v_sumThen v_bits_7) H locs → fX10_noise_L29 r_1 x1 F x7_4 x6_5 x5_6 v_bits_7 = some res → W p l e (rmK 2 49) s m ([.ref a_this, .int x1, .int x2, .int x3] : List Value).toArray below meth c H locs 0 0 (MQ below (QG D (tyL cB cI cZ) A (fun res : Int32 × Int32 × (Nat → Int32) => some (.int res.1)) (fun res : Int32 × Int32 × (Nat → Int32) => (wX10_noise cB cI cZ av a_this (res.2.1) v_size v_begins v_entries v_length v_pressed v_streamFrames v_zeros v_level v_sum v_tail v_isPlayed v_found v_strange v_innerFails v_outerFails v_mostMarks v_unsure v_may v_mocks v_sumThen (res.2.2))) res) ([.ref a_this, .int x1, .int x2, .int x3] : List Value).toArray s 0 0 A) (F0 m 29 ls []) := by
      intro F
      induction F with
      | zero => intro x7_4 x6_5 x5_6 v_bits_7 ls H locs hl hw h; rw [fX10_noise_L29.eq_1] at h; cases h
      | succ F29_8 ih29_8 =>
        intro x7_4 x6_5 x5_6 v_bits_7 ls H locs hl hw h
        rw [fX10_noise_L29.eq_2] at h
        refine lv_iload (pc := 29) hx hb dX10_noise_29 (lv_at hl 0 rfl) ?_
        refine lv_iload (pc := 31) hx hb dX10_noise_31 (lv_at hl 3 rfl) ?_
        refine lv_icmp_ge (pc := 33) (tgt := 92) hx hb dX10_noise_33 (by decide) (fun hc_9 => ?_) (fun hc_9 => ?_)
        · have h := ift hc_9 h
          refine lv_iload (pc := 92) hx hb dX10_noise_92 (lv_at hl 1 rfl) ?_
          exact x_iret (pc := 94) (v := (x6_5, 0, v_bits_7)) C (Option.some.inj h) rfl hw dX10_noise_94
        · have h := iff' hc_9 h
          refine lv_iload (pc := 36) hx hb dX10_noise_36 (lv_at hl 2 rfl) ?_
          refine lv_ldc (pc := 38) (own := RX10) (v := 1664525) hx hb C.2.2.2.1 (C.2.2.2.2.1 _ tw_1184) dX10_noise_38 ?_
          refine lv_imul (pc := 40) hx hb dX10_noise_40 ?_
          refine lv_ldc (pc := 41) (own := RX10) (v := 1013904223) hx hb C.2.2.2.1 (C.2.2.2.2.1 _ tw_1185) dX10_noise_41 ?_
          refine lv_iadd (pc := 43) hx hb dX10_noise_43 ?_
          refine lv_topi (pc := 44) (fun x5_10 ex5_10 => ?_)
          have h := nm_at ex5_10 h
          refine lv_istore (pc := 44) (lv' := [(5, .int x5_10), (7, .int x7_4), (6, .int x6_5), (4, .int r_1), (0, .ref a_this), (1, .int x1)]) hx hb dX10_noise_44 hl (by decide) rfl (fun ls hl => ?_)
          refine lv_iload (pc := 46) hx hb dX10_noise_46 (lv_at hl 0 rfl) ?_
          obtain ⟨j86_13, ej86_13, h⟩ := jk_at h
          have J86_13 : ∀ (x6_11 : Int32) (v_bits_12 : Nat → Int32) (ls : Array Slot) (H : Heap) (locs : List Loc), lv_has ls 8 [(5, .int x5_10), (7, .int x7_4), (6, .int x6_11), (4, .int r_1), (0, .ref a_this), (1, .int x1)] → Wd D A s (wX10_noise cB cI cZ av a_this 0 v_size v_begins v_entries v_length v_pressed v_streamFrames v_zeros v_level v_sum v_tail v_isPlayed v_found v_strange v_innerFails v_outerFails v_mostMarks v_unsure v_may v_mocks v_sumThen v_bits_12) H locs → j86_13 x6_11 v_bits_12 = some res → W p l e (rmK 2 49) s m ([.ref a_this, .int x1, .int x2, .int x3] : List Value).toArray below meth c H locs 0 0 (MQ below (QG D (tyL cB cI cZ) A (fun res : Int32 × Int32 × (Nat → Int32) => some (.int res.1)) (fun res : Int32 × Int32 × (Nat → Int32) => (wX10_noise cB cI cZ av a_this (res.2.1) v_size v_begins v_entries v_length v_pressed v_streamFrames v_zeros v_level v_sum v_tail v_isPlayed v_found v_strange v_innerFails v_outerFails v_mostMarks v_unsure v_may v_mocks v_sumThen (res.2.2))) res) ([.ref a_this, .int x1, .int x2, .int x3] : List Value).toArray s 0 0 A) (F0 m 86 ls []) := by
            intro x6_11 v_bits_12 ls H locs hl hw h
            have h := k2_at ej86_13 h
            obtain ⟨x7_14, ex7_14⟩ : ∃ y : Int32, y = x7_4 + 1 := ⟨_, rfl⟩
            have h := nm_at ex7_14 h
            refine lv_iinc (pc := 86) (v := x7_14) (lv' := [(7, .int x7_14), (5, .int x5_10), (6, .int x6_11), (4, .int r_1), (0, .ref a_this), (1, .int x1)]) hx hb dX10_noise_86 hl (k := 1) rfl (by rw [ex7_14]; rfl) (by decide) rfl (fun ls hl => ?_)
            refine lv_goto (pc := 89) (tgt := 29) hx hb dX10_noise_89 (by decide) ?_
            exact ih29_8 x7_14 x6_11 x5_10 v_bits_12 ls _ _ (lv_sub hl [0, 2, 1, 3, 4, 5] rfl) hw h
          refine lv_if_lt (pc := 48) (tgt := 54) hx hb dX10_noise_48 (by decide) (fun hc_15 => ?_) (fun hc_15 => ?_)
          · have h := ift hc_15 h
            refine lv_aload_n (pc := 54) hx hb dX10_noise_54 rfl (lv_at hl 4 rfl) ?_
            refine gf_X10_39 (pc := 55) C hw 0 rfl rfl dX10_noise_55 ?_
            refine lv_sipush (pc := 58) (v := 588) hx hb dX10_noise_58 (by decide) ?_
            refine lv_iload_n (pc := 61) hx hb dX10_noise_61 rfl (lv_at hl 5 rfl) ?_
            refine lv_imul (pc := 62) hx hb dX10_noise_62 ?_
            refine lv_iload (pc := 63) hx hb dX10_noise_63 (lv_at hl 1 rfl) ?_
            refine lv_iadd (pc := 65) hx hb dX10_noise_65 ?_
            refine lv_iconst (pc := 66) (v := 1) hx hb dX10_noise_66 (by decide) ?_
            refine lv_aload_n (pc := 67) hx hb dX10_noise_67 rfl (lv_at hl 4 rfl) ?_
            refine gf_X10_39 (pc := 68) C hw 0 rfl rfl dX10_noise_68 ?_
            refine lv_sipush (pc := 71) (v := 588) hx hb dX10_noise_71 (by decide) ?_
            refine lv_iload_n (pc := 74) hx hb dX10_noise_74 rfl (lv_at hl 5 rfl) ?_
            refine lv_imul (pc := 75) hx hb dX10_noise_75 ?_
            refine lv_iload (pc := 76) hx hb dX10_noise_76 (lv_at hl 1 rfl) ?_
            refine lv_iadd (pc := 78) hx hb dX10_noise_78 ?_
            obtain ⟨hi_16, h⟩ := og_at h
            refine x_bald (pc := 79) C hw 1 rfl hi_16 dX10_noise_79 ?_
            refine lv_isub (pc := 80) hx hb dX10_noise_80 ?_
            refine lv_i2b (pc := 81) hx hb dX10_noise_81 rfl ?_
            obtain ⟨hi_17, h⟩ := og_at h
            obtain ⟨v_bits_18, ev_bits_18⟩ : ∃ y : Nat → Int32, y = upd v_bits_7 (Int32.toNatClampNeg (((588 : Int32) * x1) + x7_4)) (vp_nar .byte (Int8.toInt32 (Int32.toInt8 ((1 : Int32) - (v_bits_7 (Int32.toNatClampNeg (((588 : Int32) * x1) + x7_4))))))) := ⟨_, rfl⟩
            have h := nm_at ev_bits_18 h
            refine x_bast (pc := 82) (wX10_noise cB cI cZ av a_this 0 v_size v_begins v_entries v_length v_pressed v_streamFrames v_zeros v_level v_sum v_tail v_isPlayed v_found v_strange v_innerFails v_outerFails v_mostMarks v_unsure v_may v_mocks v_sumThen v_bits_18) C hw 1 rfl hi_17 (by rw [ev_bits_18]; rfl) dX10_noise_82 (fun H locs hw => ?_)
            obtain ⟨x6_19, ex6_19⟩ : ∃ y : Int32, y = x6_5 + 1 := ⟨_, rfl⟩
            have h := nm_at ex6_19 h
            refine lv_iinc (pc := 83) (v := x6_19) (lv' := [(6, .int x6_19), (5, .int x5_10), (7, .int x7_4), (4, .int r_1), (0, .ref a_this), (1, .int x1)]) hx hb dX10_noise_83 hl (k := 2) rfl (by rw [ex6_19]; rfl) (by decide) rfl (fun ls hl => ?_)
            exact J86_13 x6_19 v_bits_18 ls _ _ (lv_sub hl [1, 2, 0, 3, 4, 5] rfl) hw h
          · have h := iff' hc_15 h
            refine lv_goto (pc := 51) (tgt := 86) hx hb dX10_noise_51 (by decide) ?_
            exact J86_13 x6_5 v_bits_7 ls _ _ (lv_sub hl [0, 1, 2, 3, 4, 5] rfl) hw h
    exact Lih29_8 FU 0 0 x3 v_bits ls _ _ (lv_sub hl [0, 1, 2, 3, 4, 5] rfl) hw h
  · have h := iff' hc_3 h
    refine lv_iconst (pc := 18) (v := (-1)) hx hb dX10_noise_18 (by decide) ?_
    exact x_iret (pc := 19) (v := ((-1), 0, v_bits)) C (Option.some.inj h) rfl hw dX10_noise_19
def wX10_slip (cB cI cZ : ClassId) (av : Nat → Nat) (a_this : Nat) (v_thrown : Int32) (v_size : Int32) (v_begins : Int32) (v_entries : Int32) (v_length : Int32) (v_pressed : Int32) (v_streamFrames : Int32) (v_zeros : Int32) (v_level : Int32) (v_sum : Int32) (v_tail : Int32) (v_isPlayed : Int32) (v_found : Int32) (v_strange : Int32) (v_innerFails : Int32) (v_outerFails : Int32) (v_mostMarks : Int32) (v_unsure : Int32) (v_may : Int32) (v_mocks : Int32) (v_sumThen : Int32) (v_bits : Nat → Int32) : va_W := [oX10 a_this av v_thrown v_size v_begins v_entries v_length v_pressed v_streamFrames v_zeros v_level v_sum v_tail v_isPlayed v_found v_strange v_innerFails v_outerFails v_mostMarks v_unsure v_may v_mocks v_sumThen, ((av 13), .inl (cB, 360000, .inl v_bits))]
def fX10_slip_L154 (x2 : Int32) (j174_14 : (Nat → Int32) → Option (Int32 × Int32 × Int32 × (Nat → Int32))) (x1 : Int32) : Nat → Int32 → (Nat → Int32) → Option (Int32 × Int32 × Int32 × (Nat → Int32))
  | 0, _, _ => none
  | F154_18 + 1, x3_16, v_bits_17 => if x2 ≤ x3_16 then j174_14 v_bits_17 else og (ixb (x1 + x3_16) 360000) (nm (upd v_bits_17 (Int32.toNatClampNeg (x1 + x3_16)) (vp_nar .byte 0)) fun v_bits_21 => nm (x3_16 + 1 : Int32) fun x3_22 => fX10_slip_L154 x2 j174_14 x1 F154_18 x3_22 v_bits_21)
def fX10_slip_L127 (x1 : Int32) (j152_12 : (Nat → Int32) → Option (Int32 × Int32 × Int32 × (Nat → Int32))) (x2 : Int32) : Nat → Int32 → (Nat → Int32) → Option (Int32 × Int32 × Int32 × (Nat → Int32))
  | 0, _, _ => none
  | F127_25 + 1, x3_23, v_bits_24 => if x3_23 < x1 then j152_12 v_bits_24 else og (ixb x3_23 360000) (og (ixb (x3_23 + x2) 360000) (nm (upd v_bits_24 (Int32.toNatClampNeg (x3_23 + x2)) (vp_nar .byte (v_bits_24 (Int32.toNatClampNeg x3_23)))) fun v_bits_29 => nm (x3_23 + (-1) : Int32) fun x3_30 => fX10_slip_L127 x1 j152_12 x2 F127_25 x3_30 v_bits_29))
def fX10_slip_L72 (v_length : Int32) (x3_31 : Int32) (j105_33 : (Nat → Int32) → Option (Int32 × Int32 × Int32 × (Nat → Int32))) : Nat → Int32 → (Nat → Int32) → Option (Int32 × Int32 × Int32 × (Nat → Int32))
  | 0, _, _ => none
  | F72_37 + 1, x4_35, v_bits_36 => if v_length ≤ (x4_35 + x3_31) then j105_33 v_bits_36 else og (ixb (x4_35 + x3_31) 360000) (og (ixb x4_35 360000) (nm (upd v_bits_36 (Int32.toNatClampNeg x4_35) (vp_nar .byte (v_bits_36 (Int32.toNatClampNeg (x4_35 + x3_31))))) fun v_bits_41 => nm (x4_35 + 1 : Int32) fun x4_42 => fX10_slip_L72 v_length x3_31 j105_33 F72_37 x4_42 v_bits_41))
def fX10_slip (v_length : Int32) (v_pressed : Int32) (v_thrown : Int32) (v_bits : Nat → Int32) (x1 : Int32) (x2 : Int32) : Option (Int32 × Int32 × Int32 × (Nat → Int32)) := if v_pressed = 0 then some ((-1), v_length, 0, v_bits) else nt1 (fX10_in (Int32.toInt64 x1) 0 (Int32.toInt64 v_length)) fun r_2 => if r_2 = 0 then some ((-1), v_length, 0, v_bits) else nt1 (fX10_in (Int32.toInt64 x2) (-600) 600) fun r_5 => if r_5 = 0 then some ((-1), v_length, 0, v_bits) else if (v_length + x2) ≤ (360000 : Int32) then if 0 ≤ x2 then nm ((v_length - (1 : Int32)) : Int32) fun x3_10 => jk (fun (v_bits_11 : Nat → Int32) => jk (fun (v_bits_13 : Nat → Int32) => nm ((v_length + x2) : Int32) fun v_length_15 => some (v_length_15, v_length_15, 0, v_bits_13)) fun j174_14 => fX10_slip_L154 x2 j174_14 x1 FU 0 v_bits_11) fun j152_12 => fX10_slip_L127 x1 j152_12 x2 FU x3_10 v_bits else nm ((if (v_length - x1) < (-x2) then (v_length - x1) else (-x2) : Int32) : Int32) fun x3_31 => jk (fun (v_bits_32 : Nat → Int32) => nm ((v_length - x3_31) : Int32) fun v_length_34 => some (v_length_34, v_length_34, 0, v_bits_32)) fun j105_33 => fX10_slip_L72 v_length x3_31 j105_33 FU x1 v_bits else some ((-1), v_length, 0, v_bits)
set_option maxHeartbeats 4000000 in
set_option maxRecDepth 100000 in
theorem ct_X10_slip (l : Launch) (D : va_G) (cB cI cZ : ClassId) (tw : Nat) (av : Nat → Nat) (a_this : Nat) (v_thrown : Int32) (v_size : Int32) (v_begins : Int32) (v_entries : Int32) (v_length : Int32) (v_pressed : Int32) (v_streamFrames : Int32) (v_zeros : Int32) (v_level : Int32) (v_sum : Int32) (v_tail : Int32) (v_isPlayed : Int32) (v_found : Int32) (v_strange : Int32) (v_innerFails : Int32) (v_outerFails : Int32) (v_mostMarks : Int32) (v_unsure : Int32) (v_may : Int32) (v_mocks : Int32) (v_sumThen : Int32) (v_bits : Nat → Int32) (x1 : Int32) (x2 : Int32) (res : Int32 × Int32 × Int32 × (Nat → Int32)) (h : fX10_slip v_length v_pressed v_thrown v_bits x1 x2 = some res) : Ctr l yX10_slip cX10_slip 5 (some .int) (rmK 1 25) D (tyL cB cI cZ) tw [.ref a_this, .int x1, .int x2] (wX10_slip cB cI cZ av a_this v_thrown v_size v_begins v_entries v_length v_pressed v_streamFrames v_zeros v_level v_sum v_tail v_isPlayed v_found v_strange v_innerFails v_outerFails v_mostMarks v_unsure v_may v_mocks v_sumThen v_bits) (fun res : Int32 × Int32 × Int32 × (Nat → Int32) => some (.int res.1)) (fun res : Int32 × Int32 × Int32 × (Nat → Int32) => (wX10_slip cB cI cZ av a_this (res.2.2.1) v_size v_begins v_entries (res.2.1) v_pressed v_streamFrames v_zeros v_level v_sum v_tail v_isPlayed v_found v_strange v_innerFails v_outerFails v_mostMarks v_unsure v_may v_mocks v_sumThen (res.2.2.2))) res := by
  refine ctr_of RX10 (by decide) rfl (Nat.le_of_ble_eq_true rfl) ?_
  intro p e s m below meth c A C hw ls hl
  have hx := C.1
  have hb := C.2.1
  have hl : lv_has ls 5 [(0, .ref a_this), (1, .int x1), (2, .int x2)] := hl
  unfold fX10_slip at h
  refine lv_aload_n (pc := 0) hx hb dX10_slip_0 rfl (lv_at hl 0 rfl) ?_
  refine lv_iconst (pc := 1) (v := 0) hx hb dX10_slip_1 (by decide) ?_
  refine pf_X10_100 (pc := 2) (wX10_slip cB cI cZ av a_this 0 v_size v_begins v_entries v_length v_pressed v_streamFrames v_zeros v_level v_sum v_tail v_isPlayed v_found v_strange v_innerFails v_outerFails v_mostMarks v_unsure v_may v_mocks v_sumThen v_bits) C hw 0 rfl rfl rfl rfl (Nat.le_of_ble_eq_true rfl) dX10_slip_2 (fun H locs hw => ?_)
  refine lv_aload_n (pc := 5) hx hb dX10_slip_5 rfl (lv_at hl 0 rfl) ?_
  refine gf_X10_231 (pc := 6) C hw 0 rfl rfl dX10_slip_6 ?_
  refine lv_if_eq (pc := 9) (tgt := 51) hx hb dX10_slip_9 (by decide) (fun hc_1 => ?_) (fun hc_1 => ?_)
  · have h := ift hc_1 h
    refine lv_iconst (pc := 51) (v := (-1)) hx hb dX10_slip_51 (by decide) ?_
    exact x_iret (pc := 52) (v := ((-1), v_length, 0, v_bits)) C (Option.some.inj h) rfl hw dX10_slip_52
  · have h := iff' hc_1 h
    refine lv_iload_n (pc := 12) hx hb dX10_slip_12 rfl (lv_at hl 1 rfl) ?_
    refine lv_i2l (pc := 13) hx hb dX10_slip_13 rfl ?_
    refine lv_lconst (pc := 14) (v := 0) hx hb dX10_slip_14 (by decide) ?_
    refine lv_aload_n (pc := 15) hx hb dX10_slip_15 rfl (lv_at hl 0 rfl) ?_
    refine gf_X10_185 (pc := 16) C hw 0 rfl rfl dX10_slip_16 ?_
    refine lv_i2l (pc := 19) hx hb dX10_slip_19 rfl ?_
    obtain ⟨r_2, hq_3, h⟩ := nt1_at h
    refine x_callS (pc := 20) (rest := []) (stk := [.int r_2]) (wX10_slip cB cI cZ av a_this 0 v_size v_begins v_entries v_length v_pressed v_streamFrames v_zeros v_level v_sum v_tail v_isPlayed v_found v_strange v_innerFails v_outerFails v_mostMarks v_unsure v_may v_mocks v_sumThen v_bits) C hw (ct_X10_in l D cB cI cZ tw av (Int32.toInt64 x1) 0 (Int32.toInt64 v_length) r_2 hq_3.symm) cal_X10_in tw_1176 [] [0, 1] 2 [oX10 a_this av 0 v_size v_begins v_entries v_length v_pressed v_streamFrames v_zeros v_level v_sum v_tail v_isPlayed v_found v_strange v_innerFails v_outerFails v_mostMarks v_unsure v_may v_mocks v_sumThen, ((av 13), .inl (cB, 360000, .inl v_bits))] rfl rfl rfl rfl rfl rfl rfl rfl rfl rfl rfl (Nat.le_of_ble_eq_true rfl) hl.1 ⟨Nat.le_of_ble_eq_true rfl, Nat.le_of_ble_eq_true rfl⟩ ⟨Nat.zero_le _, Nat.zero_le _⟩ dX10_slip_20 (fun H locs hw => ?_)
    refine lv_if_eq (pc := 23) (tgt := 51) hx hb dX10_slip_23 (by decide) (fun hc_4 => ?_) (fun hc_4 => ?_)
    · have h := ift hc_4 h
      refine lv_iconst (pc := 51) (v := (-1)) hx hb dX10_slip_51 (by decide) ?_
      exact x_iret (pc := 52) (v := ((-1), v_length, 0, v_bits)) C (Option.some.inj h) rfl hw dX10_slip_52
    · have h := iff' hc_4 h
      refine lv_iload_n (pc := 26) hx hb dX10_slip_26 rfl (lv_at hl 2 rfl) ?_
      refine lv_i2l (pc := 27) hx hb dX10_slip_27 rfl ?_
      refine lv_ldc2 (pc := 28) (own := RX10) (v := (-600)) hx hb C.2.2.2.1 (C.2.2.2.2.1 _ tw_1407) dX10_slip_28 ?_
      refine lv_ldc2 (pc := 31) (own := RX10) (v := 600) hx hb C.2.2.2.1 (C.2.2.2.2.1 _ tw_1397) dX10_slip_31 ?_
      obtain ⟨r_5, hq_6, h⟩ := nt1_at h
      refine x_callS (pc := 34) (rest := []) (stk := [.int r_5]) (wX10_slip cB cI cZ av a_this 0 v_size v_begins v_entries v_length v_pressed v_streamFrames v_zeros v_level v_sum v_tail v_isPlayed v_found v_strange v_innerFails v_outerFails v_mostMarks v_unsure v_may v_mocks v_sumThen v_bits) C hw (ct_X10_in l D cB cI cZ tw av (Int32.toInt64 x2) (-600) 600 r_5 hq_6.symm) cal_X10_in tw_1176 [] [0, 1] 2 [oX10 a_this av 0 v_size v_begins v_entries v_length v_pressed v_streamFrames v_zeros v_level v_sum v_tail v_isPlayed v_found v_strange v_innerFails v_outerFails v_mostMarks v_unsure v_may v_mocks v_sumThen, ((av 13), .inl (cB, 360000, .inl v_bits))] rfl rfl rfl rfl rfl rfl rfl rfl rfl rfl rfl (Nat.le_of_ble_eq_true rfl) hl.1 ⟨Nat.le_of_ble_eq_true rfl, Nat.le_of_ble_eq_true rfl⟩ ⟨Nat.zero_le _, Nat.zero_le _⟩ dX10_slip_34 (fun H locs hw => ?_)
      refine lv_if_eq (pc := 37) (tgt := 51) hx hb dX10_slip_37 (by decide) (fun hc_7 => ?_) (fun hc_7 => ?_)
      · have h := ift hc_7 h
        refine lv_iconst (pc := 51) (v := (-1)) hx hb dX10_slip_51 (by decide) ?_
        exact x_iret (pc := 52) (v := ((-1), v_length, 0, v_bits)) C (Option.some.inj h) rfl hw dX10_slip_52
      · have h := iff' hc_7 h
        refine lv_aload_n (pc := 40) hx hb dX10_slip_40 rfl (lv_at hl 0 rfl) ?_
        refine gf_X10_185 (pc := 41) C hw 0 rfl rfl dX10_slip_41 ?_
        refine lv_iload_n (pc := 44) hx hb dX10_slip_44 rfl (lv_at hl 2 rfl) ?_
        refine lv_iadd (pc := 45) hx hb dX10_slip_45 ?_
        refine lv_ldc (pc := 46) (own := RX10) (v := 360000) hx hb C.2.2.2.1 (C.2.2.2.2.1 _ tw_1018) dX10_slip_46 ?_
        refine lv_icmp_le (pc := 48) (tgt := 53) hx hb dX10_slip_48 (by decide) (fun hc_8 => ?_) (fun hc_8 => ?_)
        · have h := ift hc_8 h
          refine lv_iload_n (pc := 53) hx hb dX10_slip_53 rfl (lv_at hl 2 rfl) ?_
          refine lv_if_ge (pc := 54) (tgt := 120) hx hb dX10_slip_54 (by decide) (fun hc_9 => ?_) (fun hc_9 => ?_)
          · have h := ift hc_9 h
            refine lv_aload_n (pc := 120) hx hb dX10_slip_120 rfl (lv_at hl 0 rfl) ?_
            refine gf_X10_185 (pc := 121) C hw 0 rfl rfl dX10_slip_121 ?_
            refine lv_iconst (pc := 124) (v := 1) hx hb dX10_slip_124 (by decide) ?_
            refine lv_isub (pc := 125) hx hb dX10_slip_125 ?_
            refine lv_topi (pc := 126) (fun x3_10 ex3_10 => ?_)
            have h := nm_at ex3_10 h
            refine lv_istore_n (pc := 126) (lv' := [(3, .int x3_10), (0, .ref a_this), (1, .int x1), (2, .int x2)]) hx hb dX10_slip_126 rfl hl (by decide) rfl (fun ls hl => ?_)
            obtain ⟨j152_12, ej152_12, h⟩ := jk_at h
            have J152_12 : ∀ (v_bits_11 : Nat → Int32) (ls : Array Slot) (H : Heap) (locs : List Loc), lv_has ls 5 [(0, .ref a_this), (1, .int x1), (2, .int x2)] → Wd D A s (wX10_slip cB cI cZ av a_this 0 v_size v_begins v_entries v_length v_pressed v_streamFrames v_zeros v_level v_sum v_tail v_isPlayed v_found v_strange v_innerFails v_outerFails v_mostMarks v_unsure v_may v_mocks v_sumThen v_bits_11) H locs → j152_12 v_bits_11 = some res → W p l e (rmK 1 25) s m ([.ref a_this, .int x1, .int x2] : List Value).toArray below meth c H locs 0 0 (MQ below (QG D (tyL cB cI cZ) A (fun res : Int32 × Int32 × Int32 × (Nat → Int32) => some (.int res.1)) (fun res : Int32 × Int32 × Int32 × (Nat → Int32) => (wX10_slip cB cI cZ av a_this (res.2.2.1) v_size v_begins v_entries (res.2.1) v_pressed v_streamFrames v_zeros v_level v_sum v_tail v_isPlayed v_found v_strange v_innerFails v_outerFails v_mostMarks v_unsure v_may v_mocks v_sumThen (res.2.2.2))) res) ([.ref a_this, .int x1, .int x2] : List Value).toArray s 0 0 A) (F0 m 152 ls []) := by
              intro v_bits_11 ls H locs hl hw h
              have h := k1_at ej152_12 h
              refine lv_iconst (pc := 152) (v := 0) hx hb dX10_slip_152 (by decide) ?_
              refine lv_istore_n (pc := 153) (lv' := [(3, .int 0), (0, .ref a_this), (1, .int x1), (2, .int x2)]) hx hb dX10_slip_153 rfl hl (by decide) rfl (fun ls hl => ?_)
              obtain ⟨j174_14, ej174_14, h⟩ := jk_at h
              have J174_14 : ∀ (v_bits_13 : Nat → Int32) (ls : Array Slot) (H : Heap) (locs : List Loc), lv_has ls 5 [(0, .ref a_this), (2, .int x2)] → Wd D A s (wX10_slip cB cI cZ av a_this 0 v_size v_begins v_entries v_length v_pressed v_streamFrames v_zeros v_level v_sum v_tail v_isPlayed v_found v_strange v_innerFails v_outerFails v_mostMarks v_unsure v_may v_mocks v_sumThen v_bits_13) H locs → j174_14 v_bits_13 = some res → W p l e (rmK 1 25) s m ([.ref a_this, .int x1, .int x2] : List Value).toArray below meth c H locs 0 0 (MQ below (QG D (tyL cB cI cZ) A (fun res : Int32 × Int32 × Int32 × (Nat → Int32) => some (.int res.1)) (fun res : Int32 × Int32 × Int32 × (Nat → Int32) => (wX10_slip cB cI cZ av a_this (res.2.2.1) v_size v_begins v_entries (res.2.1) v_pressed v_streamFrames v_zeros v_level v_sum v_tail v_isPlayed v_found v_strange v_innerFails v_outerFails v_mostMarks v_unsure v_may v_mocks v_sumThen (res.2.2.2))) res) ([.ref a_this, .int x1, .int x2] : List Value).toArray s 0 0 A) (F0 m 174 ls []) := by
                intro v_bits_13 ls H locs hl hw h
                have h := k1_at ej174_14 h
                refine lv_aload_n (pc := 174) hx hb dX10_slip_174 rfl (lv_at hl 0 rfl) ?_
                refine lv_dup (pc := 175) hx hb dX10_slip_175 rfl ?_
                refine gf_X10_185 (pc := 176) C hw 0 rfl rfl dX10_slip_176 ?_
                refine lv_iload_n (pc := 179) hx hb dX10_slip_179 rfl (lv_at hl 1 rfl) ?_
                refine lv_iadd (pc := 180) hx hb dX10_slip_180 ?_
                refine lv_topi (pc := 181) (fun v_length_15 ev_length_15 => ?_)
                have h := nm_at ev_length_15 h
                refine pf_X10_185 (pc := 181) (wX10_slip cB cI cZ av a_this 0 v_size v_begins v_entries v_length_15 v_pressed v_streamFrames v_zeros v_level v_sum v_tail v_isPlayed v_found v_strange v_innerFails v_outerFails v_mostMarks v_unsure v_may v_mocks v_sumThen v_bits_13) C hw 0 rfl rfl rfl rfl (Nat.le_of_ble_eq_true rfl) dX10_slip_181 (fun H locs hw => ?_)
                refine lv_aload_n (pc := 184) hx hb dX10_slip_184 rfl (lv_at hl 0 rfl) ?_
                refine gf_X10_185 (pc := 185) C hw 0 rfl rfl dX10_slip_185 ?_
                exact x_iret (pc := 188) (v := (v_length_15, v_length_15, 0, v_bits_13)) C (Option.some.inj h) rfl hw dX10_slip_188
              have Lih154_18 : ∀ (F : Nat) (x3_16 : Int32) (v_bits_17 : Nat → Int32) (ls : Array Slot) (H : Heap) (locs : List Loc), lv_has ls 5 [(3, .int x3_16), (0, .ref a_this), (1, .int x1), (2, .int x2)] → Wd D A s (wX10_slip cB cI cZ av a_this 0 v_size v_begins v_entries v_length v_pressed v_streamFrames v_zeros v_level v_sum v_tail v_isPlayed v_found v_strange v_innerFails v_outerFails v_mostMarks v_unsure v_may v_mocks v_sumThen v_bits_17) H locs → fX10_slip_L154 x2 j174_14 x1 F x3_16 v_bits_17 = some res → W p l e (rmK 1 25) s m ([.ref a_this, .int x1, .int x2] : List Value).toArray below meth c H locs 0 0 (MQ below (QG D (tyL cB cI cZ) A (fun res : Int32 × Int32 × Int32 × (Nat → Int32) => some (.int res.1)) (fun res : Int32 × Int32 × Int32 × (Nat → Int32) => (wX10_slip cB cI cZ av a_this (res.2.2.1) v_size v_begins v_entries (res.2.1) v_pressed v_streamFrames v_zeros v_level v_sum v_tail v_isPlayed v_found v_strange v_innerFails v_outerFails v_mostMarks v_unsure v_may v_mocks v_sumThen (res.2.2.2))) res) ([.ref a_this, .int x1, .int x2] : List Value).toArray s 0 0 A) (F0 m 154 ls []) := by
                intro F
                induction F with
                | zero => intro x3_16 v_bits_17 ls H locs hl hw h; rw [fX10_slip_L154.eq_1] at h; cases h
                | succ F154_18 ih154_18 =>
                  intro x3_16 v_bits_17 ls H locs hl hw h
                  rw [fX10_slip_L154.eq_2] at h
                  refine lv_iload_n (pc := 154) hx hb dX10_slip_154 rfl (lv_at hl 0 rfl) ?_
                  refine lv_iload_n (pc := 155) hx hb dX10_slip_155 rfl (lv_at hl 3 rfl) ?_
                  refine lv_icmp_ge (pc := 156) (tgt := 174) hx hb dX10_slip_156 (by decide) (fun hc_19 => ?_) (fun hc_19 => ?_)
                  · have h := ift hc_19 h
                    exact J174_14 v_bits_17 ls _ _ (lv_sub hl [1, 3] rfl) hw h
                  · have h := iff' hc_19 h
                    refine lv_aload_n (pc := 159) hx hb dX10_slip_159 rfl (lv_at hl 1 rfl) ?_
                    refine gf_X10_39 (pc := 160) C hw 0 rfl rfl dX10_slip_160 ?_
                    refine lv_iload_n (pc := 163) hx hb dX10_slip_163 rfl (lv_at hl 2 rfl) ?_
                    refine lv_iload_n (pc := 164) hx hb dX10_slip_164 rfl (lv_at hl 0 rfl) ?_
                    refine lv_iadd (pc := 165) hx hb dX10_slip_165 ?_
                    refine lv_iconst (pc := 166) (v := 0) hx hb dX10_slip_166 (by decide) ?_
                    obtain ⟨hi_20, h⟩ := og_at h
                    obtain ⟨v_bits_21, ev_bits_21⟩ : ∃ y : Nat → Int32, y = upd v_bits_17 (Int32.toNatClampNeg (x1 + x3_16)) (vp_nar .byte 0) := ⟨_, rfl⟩
                    have h := nm_at ev_bits_21 h
                    refine x_bast (pc := 167) (wX10_slip cB cI cZ av a_this 0 v_size v_begins v_entries v_length v_pressed v_streamFrames v_zeros v_level v_sum v_tail v_isPlayed v_found v_strange v_innerFails v_outerFails v_mostMarks v_unsure v_may v_mocks v_sumThen v_bits_21) C hw 1 rfl hi_20 (by rw [ev_bits_21]; rfl) dX10_slip_167 (fun H locs hw => ?_)
                    obtain ⟨x3_22, ex3_22⟩ : ∃ y : Int32, y = x3_16 + 1 := ⟨_, rfl⟩
                    have h := nm_at ex3_22 h
                    refine lv_iinc (pc := 168) (v := x3_22) (lv' := [(3, .int x3_22), (0, .ref a_this), (1, .int x1), (2, .int x2)]) hx hb dX10_slip_168 hl (k := 0) rfl (by rw [ex3_22]; rfl) (by decide) rfl (fun ls hl => ?_)
                    refine lv_goto (pc := 171) (tgt := 154) hx hb dX10_slip_171 (by decide) ?_
                    exact ih154_18 x3_22 v_bits_21 ls _ _ (lv_sub hl [0, 1, 2, 3] rfl) hw h
              exact Lih154_18 FU 0 v_bits_11 ls _ _ (lv_sub hl [0, 1, 2, 3] rfl) hw h
            have Lih127_25 : ∀ (F : Nat) (x3_23 : Int32) (v_bits_24 : Nat → Int32) (ls : Array Slot) (H : Heap) (locs : List Loc), lv_has ls 5 [(3, .int x3_23), (0, .ref a_this), (1, .int x1), (2, .int x2)] → Wd D A s (wX10_slip cB cI cZ av a_this 0 v_size v_begins v_entries v_length v_pressed v_streamFrames v_zeros v_level v_sum v_tail v_isPlayed v_found v_strange v_innerFails v_outerFails v_mostMarks v_unsure v_may v_mocks v_sumThen v_bits_24) H locs → fX10_slip_L127 x1 j152_12 x2 F x3_23 v_bits_24 = some res → W p l e (rmK 1 25) s m ([.ref a_this, .int x1, .int x2] : List Value).toArray below meth c H locs 0 0 (MQ below (QG D (tyL cB cI cZ) A (fun res : Int32 × Int32 × Int32 × (Nat → Int32) => some (.int res.1)) (fun res : Int32 × Int32 × Int32 × (Nat → Int32) => (wX10_slip cB cI cZ av a_this (res.2.2.1) v_size v_begins v_entries (res.2.1) v_pressed v_streamFrames v_zeros v_level v_sum v_tail v_isPlayed v_found v_strange v_innerFails v_outerFails v_mostMarks v_unsure v_may v_mocks v_sumThen (res.2.2.2))) res) ([.ref a_this, .int x1, .int x2] : List Value).toArray s 0 0 A) (F0 m 127 ls []) := by
              intro F
              induction F with
              | zero => intro x3_23 v_bits_24 ls H locs hl hw h; rw [fX10_slip_L127.eq_1] at h; cases h
              | succ F127_25 ih127_25 =>
                intro x3_23 v_bits_24 ls H locs hl hw h
                rw [fX10_slip_L127.eq_2] at h
                refine lv_iload_n (pc := 127) hx hb dX10_slip_127 rfl (lv_at hl 0 rfl) ?_
                refine lv_iload_n (pc := 128) hx hb dX10_slip_128 rfl (lv_at hl 2 rfl) ?_
                refine lv_icmp_lt (pc := 129) (tgt := 152) hx hb dX10_slip_129 (by decide) (fun hc_26 => ?_) (fun hc_26 => ?_)
                · have h := ift hc_26 h
                  exact J152_12 v_bits_24 ls _ _ (lv_sub hl [1, 2, 3] rfl) hw h
                · have h := iff' hc_26 h
                  refine lv_aload_n (pc := 132) hx hb dX10_slip_132 rfl (lv_at hl 1 rfl) ?_
                  refine gf_X10_39 (pc := 133) C hw 0 rfl rfl dX10_slip_133 ?_
                  refine lv_iload_n (pc := 136) hx hb dX10_slip_136 rfl (lv_at hl 0 rfl) ?_
                  refine lv_iload_n (pc := 137) hx hb dX10_slip_137 rfl (lv_at hl 3 rfl) ?_
                  refine lv_iadd (pc := 138) hx hb dX10_slip_138 ?_
                  refine lv_aload_n (pc := 139) hx hb dX10_slip_139 rfl (lv_at hl 1 rfl) ?_
                  refine gf_X10_39 (pc := 140) C hw 0 rfl rfl dX10_slip_140 ?_
                  refine lv_iload_n (pc := 143) hx hb dX10_slip_143 rfl (lv_at hl 0 rfl) ?_
                  obtain ⟨hi_27, h⟩ := og_at h
                  refine x_bald (pc := 144) C hw 1 rfl hi_27 dX10_slip_144 ?_
                  obtain ⟨hi_28, h⟩ := og_at h
                  obtain ⟨v_bits_29, ev_bits_29⟩ : ∃ y : Nat → Int32, y = upd v_bits_24 (Int32.toNatClampNeg (x3_23 + x2)) (vp_nar .byte (v_bits_24 (Int32.toNatClampNeg x3_23))) := ⟨_, rfl⟩
                  have h := nm_at ev_bits_29 h
                  refine x_bast (pc := 145) (wX10_slip cB cI cZ av a_this 0 v_size v_begins v_entries v_length v_pressed v_streamFrames v_zeros v_level v_sum v_tail v_isPlayed v_found v_strange v_innerFails v_outerFails v_mostMarks v_unsure v_may v_mocks v_sumThen v_bits_29) C hw 1 rfl hi_28 (by rw [ev_bits_29]; rfl) dX10_slip_145 (fun H locs hw => ?_)
                  obtain ⟨x3_30, ex3_30⟩ : ∃ y : Int32, y = x3_23 + (-1) := ⟨_, rfl⟩
                  have h := nm_at ex3_30 h
                  refine lv_iinc (pc := 146) (v := x3_30) (lv' := [(3, .int x3_30), (0, .ref a_this), (1, .int x1), (2, .int x2)]) hx hb dX10_slip_146 hl (k := 0) rfl (by rw [ex3_30]; rfl) (by decide) rfl (fun ls hl => ?_)
                  refine lv_goto (pc := 149) (tgt := 127) hx hb dX10_slip_149 (by decide) ?_
                  exact ih127_25 x3_30 v_bits_29 ls _ _ (lv_sub hl [0, 1, 2, 3] rfl) hw h
            exact Lih127_25 FU x3_10 v_bits ls _ _ (lv_sub hl [0, 1, 2, 3] rfl) hw h
          · have h := iff' hc_9 h
            refine lv_iload_n (pc := 57) hx hb dX10_slip_57 rfl (lv_at hl 2 rfl) ?_
            refine lv_ineg (pc := 58) hx hb dX10_slip_58 ?_
            refine lv_aload_n (pc := 59) hx hb dX10_slip_59 rfl (lv_at hl 0 rfl) ?_
            refine gf_X10_185 (pc := 60) C hw 0 rfl rfl dX10_slip_60 ?_
            refine lv_iload_n (pc := 63) hx hb dX10_slip_63 rfl (lv_at hl 1 rfl) ?_
            refine lv_isub (pc := 64) hx hb dX10_slip_64 ?_
            refine va_mmin (pc := 65) (own := RX10) hx hb (C.2.2.1.trans hl.1.symm) C.2.2.2.1 (C.2.2.2.2.1 _ tw_1398) (C.2.2.2.2.1 _ tw_623) (C.2.2.2.2.1 _ tw_14) (C.2.2.2.2.1 _ tw_624) (Nat.le_of_ble_eq_true rfl) (Nat.le_of_ble_eq_true rfl) (Nat.zero_le _) (Nat.zero_le _) dX10_slip_65 ?_
            refine lv_topi (pc := 68) (fun x3_31 ex3_31 => ?_)
            have h := nm_at ex3_31 h
            refine lv_istore_n (pc := 68) (lv' := [(3, .int x3_31), (0, .ref a_this), (1, .int x1), (2, .int x2)]) hx hb dX10_slip_68 rfl hl (by decide) rfl (fun ls hl => ?_)
            refine lv_iload_n (pc := 69) hx hb dX10_slip_69 rfl (lv_at hl 2 rfl) ?_
            refine lv_istore (pc := 70) (lv' := [(4, .int x1), (3, .int x3_31), (0, .ref a_this), (1, .int x1), (2, .int x2)]) hx hb dX10_slip_70 hl (by decide) rfl (fun ls hl => ?_)
            obtain ⟨j105_33, ej105_33, h⟩ := jk_at h
            have J105_33 : ∀ (v_bits_32 : Nat → Int32) (ls : Array Slot) (H : Heap) (locs : List Loc), lv_has ls 5 [(3, .int x3_31), (0, .ref a_this)] → Wd D A s (wX10_slip cB cI cZ av a_this 0 v_size v_begins v_entries v_length v_pressed v_streamFrames v_zeros v_level v_sum v_tail v_isPlayed v_found v_strange v_innerFails v_outerFails v_mostMarks v_unsure v_may v_mocks v_sumThen v_bits_32) H locs → j105_33 v_bits_32 = some res → W p l e (rmK 1 25) s m ([.ref a_this, .int x1, .int x2] : List Value).toArray below meth c H locs 0 0 (MQ below (QG D (tyL cB cI cZ) A (fun res : Int32 × Int32 × Int32 × (Nat → Int32) => some (.int res.1)) (fun res : Int32 × Int32 × Int32 × (Nat → Int32) => (wX10_slip cB cI cZ av a_this (res.2.2.1) v_size v_begins v_entries (res.2.1) v_pressed v_streamFrames v_zeros v_level v_sum v_tail v_isPlayed v_found v_strange v_innerFails v_outerFails v_mostMarks v_unsure v_may v_mocks v_sumThen (res.2.2.2))) res) ([.ref a_this, .int x1, .int x2] : List Value).toArray s 0 0 A) (F0 m 105 ls []) := by
              intro v_bits_32 ls H locs hl hw h
              have h := k1_at ej105_33 h
              refine lv_aload_n (pc := 105) hx hb dX10_slip_105 rfl (lv_at hl 1 rfl) ?_
              refine lv_dup (pc := 106) hx hb dX10_slip_106 rfl ?_
              refine gf_X10_185 (pc := 107) C hw 0 rfl rfl dX10_slip_107 ?_
              refine lv_iload_n (pc := 110) hx hb dX10_slip_110 rfl (lv_at hl 0 rfl) ?_
              refine lv_isub (pc := 111) hx hb dX10_slip_111 ?_
              refine lv_topi (pc := 112) (fun v_length_34 ev_length_34 => ?_)
              have h := nm_at ev_length_34 h
              refine pf_X10_185 (pc := 112) (wX10_slip cB cI cZ av a_this 0 v_size v_begins v_entries v_length_34 v_pressed v_streamFrames v_zeros v_level v_sum v_tail v_isPlayed v_found v_strange v_innerFails v_outerFails v_mostMarks v_unsure v_may v_mocks v_sumThen v_bits_32) C hw 0 rfl rfl rfl rfl (Nat.le_of_ble_eq_true rfl) dX10_slip_112 (fun H locs hw => ?_)
              refine lv_aload_n (pc := 115) hx hb dX10_slip_115 rfl (lv_at hl 1 rfl) ?_
              refine gf_X10_185 (pc := 116) C hw 0 rfl rfl dX10_slip_116 ?_
              exact x_iret (pc := 119) (v := (v_length_34, v_length_34, 0, v_bits_32)) C (Option.some.inj h) rfl hw dX10_slip_119
            have Lih72_37 : ∀ (F : Nat) (x4_35 : Int32) (v_bits_36 : Nat → Int32) (ls : Array Slot) (H : Heap) (locs : List Loc), lv_has ls 5 [(4, .int x4_35), (3, .int x3_31), (0, .ref a_this)] → Wd D A s (wX10_slip cB cI cZ av a_this 0 v_size v_begins v_entries v_length v_pressed v_streamFrames v_zeros v_level v_sum v_tail v_isPlayed v_found v_strange v_innerFails v_outerFails v_mostMarks v_unsure v_may v_mocks v_sumThen v_bits_36) H locs → fX10_slip_L72 v_length x3_31 j105_33 F x4_35 v_bits_36 = some res → W p l e (rmK 1 25) s m ([.ref a_this, .int x1, .int x2] : List Value).toArray below meth c H locs 0 0 (MQ below (QG D (tyL cB cI cZ) A (fun res : Int32 × Int32 × Int32 × (Nat → Int32) => some (.int res.1)) (fun res : Int32 × Int32 × Int32 × (Nat → Int32) => (wX10_slip cB cI cZ av a_this (res.2.2.1) v_size v_begins v_entries (res.2.1) v_pressed v_streamFrames v_zeros v_level v_sum v_tail v_isPlayed v_found v_strange v_innerFails v_outerFails v_mostMarks v_unsure v_may v_mocks v_sumThen (res.2.2.2))) res) ([.ref a_this, .int x1, .int x2] : List Value).toArray s 0 0 A) (F0 m 72 ls []) := by
              intro F
              induction F with
              | zero => intro x4_35 v_bits_36 ls H locs hl hw h; rw [fX10_slip_L72.eq_1] at h; cases h
              | succ F72_37 ih72_37 =>
                intro x4_35 v_bits_36 ls H locs hl hw h
                rw [fX10_slip_L72.eq_2] at h
                refine lv_iload (pc := 72) hx hb dX10_slip_72 (lv_at hl 0 rfl) ?_
                refine lv_iload_n (pc := 74) hx hb dX10_slip_74 rfl (lv_at hl 1 rfl) ?_
                refine lv_iadd (pc := 75) hx hb dX10_slip_75 ?_
                refine lv_aload_n (pc := 76) hx hb dX10_slip_76 rfl (lv_at hl 2 rfl) ?_
                refine gf_X10_185 (pc := 77) C hw 0 rfl rfl dX10_slip_77 ?_
                refine lv_icmp_ge (pc := 80) (tgt := 105) hx hb dX10_slip_80 (by decide) (fun hc_38 => ?_) (fun hc_38 => ?_)
                · have h := ift hc_38 h
                  exact J105_33 v_bits_36 ls _ _ (lv_sub hl [1, 2] rfl) hw h
                · have h := iff' hc_38 h
                  refine lv_aload_n (pc := 83) hx hb dX10_slip_83 rfl (lv_at hl 2 rfl) ?_
                  refine gf_X10_39 (pc := 84) C hw 0 rfl rfl dX10_slip_84 ?_
                  refine lv_iload (pc := 87) hx hb dX10_slip_87 (lv_at hl 0 rfl) ?_
                  refine lv_aload_n (pc := 89) hx hb dX10_slip_89 rfl (lv_at hl 2 rfl) ?_
                  refine gf_X10_39 (pc := 90) C hw 0 rfl rfl dX10_slip_90 ?_
                  refine lv_iload (pc := 93) hx hb dX10_slip_93 (lv_at hl 0 rfl) ?_
                  refine lv_iload_n (pc := 95) hx hb dX10_slip_95 rfl (lv_at hl 1 rfl) ?_
                  refine lv_iadd (pc := 96) hx hb dX10_slip_96 ?_
                  obtain ⟨hi_39, h⟩ := og_at h
                  refine x_bald (pc := 97) C hw 1 rfl hi_39 dX10_slip_97 ?_
                  obtain ⟨hi_40, h⟩ := og_at h
                  obtain ⟨v_bits_41, ev_bits_41⟩ : ∃ y : Nat → Int32, y = upd v_bits_36 (Int32.toNatClampNeg x4_35) (vp_nar .byte (v_bits_36 (Int32.toNatClampNeg (x4_35 + x3_31)))) := ⟨_, rfl⟩
                  have h := nm_at ev_bits_41 h
                  refine x_bast (pc := 98) (wX10_slip cB cI cZ av a_this 0 v_size v_begins v_entries v_length v_pressed v_streamFrames v_zeros v_level v_sum v_tail v_isPlayed v_found v_strange v_innerFails v_outerFails v_mostMarks v_unsure v_may v_mocks v_sumThen v_bits_41) C hw 1 rfl hi_40 (by rw [ev_bits_41]; rfl) dX10_slip_98 (fun H locs hw => ?_)
                  obtain ⟨x4_42, ex4_42⟩ : ∃ y : Int32, y = x4_35 + 1 := ⟨_, rfl⟩
                  have h := nm_at ex4_42 h
                  refine lv_iinc (pc := 99) (v := x4_42) (lv' := [(4, .int x4_42), (3, .int x3_31), (0, .ref a_this)]) hx hb dX10_slip_99 hl (k := 0) rfl (by rw [ex4_42]; rfl) (by decide) rfl (fun ls hl => ?_)
                  refine lv_goto (pc := 102) (tgt := 72) hx hb dX10_slip_102 (by decide) ?_
                  exact ih72_37 x4_42 v_bits_41 ls _ _ (lv_sub hl [0, 1, 2] rfl) hw h
            exact Lih72_37 FU x1 v_bits ls _ _ (lv_sub hl [0, 1, 2] rfl) hw h
        · have h := iff' hc_8 h
          refine lv_iconst (pc := 51) (v := (-1)) hx hb dX10_slip_51 (by decide) ?_
          exact x_iret (pc := 52) (v := ((-1), v_length, 0, v_bits)) C (Option.some.inj h) rfl hw dX10_slip_52
def wX10_nextFrame (cB cI cZ : ClassId) (av : Nat → Nat) (a_this : Nat) (v_thrown : Int32) (v_size : Int32) (v_begins : Int32) (v_entries : Int32) (v_length : Int32) (v_pressed : Int32) (v_streamFrames : Int32) (v_zeros : Int32) (v_level : Int32) (v_sum : Int32) (v_tail : Int32) (v_isPlayed : Int32) (v_found : Int32) (v_strange : Int32) (v_innerFails : Int32) (v_outerFails : Int32) (v_mostMarks : Int32) (v_unsure : Int32) (v_may : Int32) (v_mocks : Int32) (v_sumThen : Int32) (v_bits : Nat → Int32) : va_W := [oX10 a_this av v_thrown v_size v_begins v_entries v_length v_pressed v_streamFrames v_zeros v_level v_sum v_tail v_isPlayed v_found v_strange v_innerFails v_outerFails v_mostMarks v_unsure v_may v_mocks v_sumThen, ((av 13), .inl (cB, 360000, .inl v_bits))]
def fX10_nextFrame_L2 (x2 : Int32) (x1 : Int32) (v_length : Int32) (v_bits : Nat → Int32) (j43_2 : Int32 → Option (Int32)) (j21_4 : Int32 → Option (Int32)) : Nat → Int32 → Option (Int32)
  | 0, _ => none
  | F2_6 + 1, x3_5 => if x2 < x3_5 then some (x1 + (588 : Int32)) else ob1 (fX10_isSign v_length v_bits ((x1 + (588 : Int32)) - x3_5)) fun r_8 => if r_8 = 0 then ob1 (fX10_isSign v_length v_bits ((x1 + (588 : Int32)) + x3_5)) fun r_11 => if r_11 = 0 then nm (x3_5 + 1 : Int32) fun x3_14 => fX10_nextFrame_L2 x2 x1 v_length v_bits j43_2 j21_4 F2_6 x3_14 else j43_2 x3_5 else j21_4 x3_5
def fX10_nextFrame (v_length : Int32) (v_bits : Nat → Int32) (x1 : Int32) (x2 : Int32) : Option (Int32) := jk (fun (x3_1 : Int32) => some ((x1 + (588 : Int32)) + x3_1)) fun j43_2 => jk (fun (x3_3 : Int32) => some ((x1 + (588 : Int32)) - x3_3)) fun j21_4 => fX10_nextFrame_L2 x2 x1 v_length v_bits j43_2 j21_4 FU 0
set_option maxHeartbeats 4000000 in
set_option maxRecDepth 100000 in
theorem ct_X10_nextFrame (l : Launch) (D : va_G) (cB cI cZ : ClassId) (tw : Nat) (av : Nat → Nat) (a_this : Nat) (v_thrown : Int32) (v_size : Int32) (v_begins : Int32) (v_entries : Int32) (v_length : Int32) (v_pressed : Int32) (v_streamFrames : Int32) (v_zeros : Int32) (v_level : Int32) (v_sum : Int32) (v_tail : Int32) (v_isPlayed : Int32) (v_found : Int32) (v_strange : Int32) (v_innerFails : Int32) (v_outerFails : Int32) (v_mostMarks : Int32) (v_unsure : Int32) (v_may : Int32) (v_mocks : Int32) (v_sumThen : Int32) (v_bits : Nat → Int32) (x1 : Int32) (x2 : Int32) (res : Int32) (h : fX10_nextFrame v_length v_bits x1 x2 = some res) : Ctr l yX10_nextFrame cX10_nextFrame 4 (some .int) (rmK 3 67) D (tyL cB cI cZ) tw [.ref a_this, .int x1, .int x2] (wX10_nextFrame cB cI cZ av a_this v_thrown v_size v_begins v_entries v_length v_pressed v_streamFrames v_zeros v_level v_sum v_tail v_isPlayed v_found v_strange v_innerFails v_outerFails v_mostMarks v_unsure v_may v_mocks v_sumThen v_bits) (fun res : Int32 => some (.int res)) (fun res : Int32 => (wX10_nextFrame cB cI cZ av a_this v_thrown v_size v_begins v_entries v_length v_pressed v_streamFrames v_zeros v_level v_sum v_tail v_isPlayed v_found v_strange v_innerFails v_outerFails v_mostMarks v_unsure v_may v_mocks v_sumThen v_bits)) res := by
  refine ctr_of RX10 (by decide) rfl (Nat.le_of_ble_eq_true rfl) ?_
  intro p e s m below meth c A C hw ls hl
  have hx := C.1
  have hb := C.2.1
  have hl : lv_has ls 4 [(0, .ref a_this), (1, .int x1), (2, .int x2)] := hl
  unfold fX10_nextFrame at h
  refine lv_iconst (pc := 0) (v := 0) hx hb dX10_nextFrame_0 (by decide) ?_
  refine lv_istore_n (pc := 1) (lv' := [(3, .int 0), (0, .ref a_this), (1, .int x1), (2, .int x2)]) hx hb dX10_nextFrame_1 rfl hl (by decide) rfl (fun ls hl => ?_)
  obtain ⟨j43_2, ej43_2, h⟩ := jk_at h
  have J43_2 : ∀ (x3_1 : Int32) (ls : Array Slot) (H : Heap) (locs : List Loc), lv_has ls 4 [(3, .int x3_1), (1, .int x1)] → Wd D A s (wX10_nextFrame cB cI cZ av a_this v_thrown v_size v_begins v_entries v_length v_pressed v_streamFrames v_zeros v_level v_sum v_tail v_isPlayed v_found v_strange v_innerFails v_outerFails v_mostMarks v_unsure v_may v_mocks v_sumThen v_bits) H locs → j43_2 x3_1 = some res → W p l e (rmK 3 67) s m ([.ref a_this, .int x1, .int x2] : List Value).toArray below meth c H locs 0 0 (MQ below (QG D (tyL cB cI cZ) A (fun res : Int32 => some (.int res)) (fun res : Int32 => (wX10_nextFrame cB cI cZ av a_this v_thrown v_size v_begins v_entries v_length v_pressed v_streamFrames v_zeros v_level v_sum v_tail v_isPlayed v_found v_strange v_innerFails v_outerFails v_mostMarks v_unsure v_may v_mocks v_sumThen v_bits)) res) ([.ref a_this, .int x1, .int x2] : List Value).toArray s 0 0 A) (F0 m 43 ls []) := by
    intro x3_1 ls H locs hl hw h
    have h := k1_at ej43_2 h
    refine lv_iload_n (pc := 43) hx hb dX10_nextFrame_43 rfl (lv_at hl 1 rfl) ?_
    refine lv_sipush (pc := 44) (v := 588) hx hb dX10_nextFrame_44 (by decide) ?_
    refine lv_iadd (pc := 47) hx hb dX10_nextFrame_47 ?_
    refine lv_iload_n (pc := 48) hx hb dX10_nextFrame_48 rfl (lv_at hl 0 rfl) ?_
    refine lv_iadd (pc := 49) hx hb dX10_nextFrame_49 ?_
    exact x_iret (pc := 50) (v := ((x1 + (588 : Int32)) + x3_1)) C (Option.some.inj h) rfl hw dX10_nextFrame_50
  obtain ⟨j21_4, ej21_4, h⟩ := jk_at h
  have J21_4 : ∀ (x3_3 : Int32) (ls : Array Slot) (H : Heap) (locs : List Loc), lv_has ls 4 [(3, .int x3_3), (1, .int x1)] → Wd D A s (wX10_nextFrame cB cI cZ av a_this v_thrown v_size v_begins v_entries v_length v_pressed v_streamFrames v_zeros v_level v_sum v_tail v_isPlayed v_found v_strange v_innerFails v_outerFails v_mostMarks v_unsure v_may v_mocks v_sumThen v_bits) H locs → j21_4 x3_3 = some res → W p l e (rmK 3 67) s m ([.ref a_this, .int x1, .int x2] : List Value).toArray below meth c H locs 0 0 (MQ below (QG D (tyL cB cI cZ) A (fun res : Int32 => some (.int res)) (fun res : Int32 => (wX10_nextFrame cB cI cZ av a_this v_thrown v_size v_begins v_entries v_length v_pressed v_streamFrames v_zeros v_level v_sum v_tail v_isPlayed v_found v_strange v_innerFails v_outerFails v_mostMarks v_unsure v_may v_mocks v_sumThen v_bits)) res) ([.ref a_this, .int x1, .int x2] : List Value).toArray s 0 0 A) (F0 m 21 ls []) := by
    intro x3_3 ls H locs hl hw h
    have h := k1_at ej21_4 h
    refine lv_iload_n (pc := 21) hx hb dX10_nextFrame_21 rfl (lv_at hl 1 rfl) ?_
    refine lv_sipush (pc := 22) (v := 588) hx hb dX10_nextFrame_22 (by decide) ?_
    refine lv_iadd (pc := 25) hx hb dX10_nextFrame_25 ?_
    refine lv_iload_n (pc := 26) hx hb dX10_nextFrame_26 rfl (lv_at hl 0 rfl) ?_
    refine lv_isub (pc := 27) hx hb dX10_nextFrame_27 ?_
    exact x_iret (pc := 28) (v := ((x1 + (588 : Int32)) - x3_3)) C (Option.some.inj h) rfl hw dX10_nextFrame_28
  have Lih2_6 : ∀ (F : Nat) (x3_5 : Int32) (ls : Array Slot) (H : Heap) (locs : List Loc), lv_has ls 4 [(3, .int x3_5), (0, .ref a_this), (1, .int x1), (2, .int x2)] → Wd D A s (wX10_nextFrame cB cI cZ av a_this v_thrown v_size v_begins v_entries v_length v_pressed v_streamFrames v_zeros v_level v_sum v_tail v_isPlayed v_found v_strange v_innerFails v_outerFails v_mostMarks v_unsure v_may v_mocks v_sumThen v_bits) H locs → fX10_nextFrame_L2 x2 x1 v_length v_bits j43_2 j21_4 F x3_5 = some res → W p l e (rmK 3 67) s m ([.ref a_this, .int x1, .int x2] : List Value).toArray below meth c H locs 0 0 (MQ below (QG D (tyL cB cI cZ) A (fun res : Int32 => some (.int res)) (fun res : Int32 => (wX10_nextFrame cB cI cZ av a_this v_thrown v_size v_begins v_entries v_length v_pressed v_streamFrames v_zeros v_level v_sum v_tail v_isPlayed v_found v_strange v_innerFails v_outerFails v_mostMarks v_unsure v_may v_mocks v_sumThen v_bits)) res) ([.ref a_this, .int x1, .int x2] : List Value).toArray s 0 0 A) (F0 m 2 ls []) := by
    intro F
    induction F with
    | zero => intro x3_5 ls H locs hl hw h; rw [fX10_nextFrame_L2.eq_1] at h; cases h
    | succ F2_6 ih2_6 =>
      intro x3_5 ls H locs hl hw h
      rw [fX10_nextFrame_L2.eq_2] at h
      refine lv_iload_n (pc := 2) hx hb dX10_nextFrame_2 rfl (lv_at hl 0 rfl) ?_
      refine lv_iload_n (pc := 3) hx hb dX10_nextFrame_3 rfl (lv_at hl 3 rfl) ?_
      refine lv_icmp_gt (pc := 4) (tgt := 57) hx hb dX10_nextFrame_4 (by decide) (fun hc_7 => ?_) (fun hc_7 => ?_)
      · have h := ift hc_7 h
        refine lv_iload_n (pc := 57) hx hb dX10_nextFrame_57 rfl (lv_at hl 2 rfl) ?_
        refine lv_sipush (pc := 58) (v := 588) hx hb dX10_nextFrame_58 (by decide) ?_
        refine lv_iadd (pc := 61) hx hb dX10_nextFrame_61 ?_
        exact x_iret (pc := 62) (v := (x1 + (588 : Int32))) C (Option.some.inj h) rfl hw dX10_nextFrame_62
      · have h := iff' hc_7 h
        refine lv_aload_n (pc := 7) hx hb dX10_nextFrame_7 rfl (lv_at hl 1 rfl) ?_
        refine lv_iload_n (pc := 8) hx hb dX10_nextFrame_8 rfl (lv_at hl 2 rfl) ?_
        refine lv_sipush (pc := 9) (v := 588) hx hb dX10_nextFrame_9 (by decide) ?_
        refine lv_iadd (pc := 12) hx hb dX10_nextFrame_12 ?_
        refine lv_iload_n (pc := 13) hx hb dX10_nextFrame_13 rfl (lv_at hl 0 rfl) ?_
        refine lv_isub (pc := 14) hx hb dX10_nextFrame_14 ?_
        obtain ⟨r_8, hq_9, h⟩ := ob1_at h
        refine x_callV (pc := 15) (rest := []) (stk := [.int r_8]) (wX10_nextFrame cB cI cZ av a_this v_thrown v_size v_begins v_entries v_length v_pressed v_streamFrames v_zeros v_level v_sum v_tail v_isPlayed v_found v_strange v_innerFails v_outerFails v_mostMarks v_unsure v_may v_mocks v_sumThen v_bits) C hw (ct_X10_isSign l D cB cI cZ tw av a_this v_thrown v_size v_begins v_entries v_length v_pressed v_streamFrames v_zeros v_level v_sum v_tail v_isPlayed v_found v_strange v_innerFails v_outerFails v_mostMarks v_unsure v_may v_mocks v_sumThen v_bits ((x1 + (588 : Int32)) - x3_5) r_8 hq_9) cal_X10_isSign tw_1376 (q0 := 0) rfl rfl [0, 1] [] 2 [] rfl rfl rfl rfl rfl rfl rfl rfl rfl rfl rfl (Nat.le_of_ble_eq_true rfl) hl.1 ⟨Nat.le_of_ble_eq_true rfl, Nat.le_of_ble_eq_true rfl⟩ ⟨Nat.zero_le _, Nat.zero_le _⟩ dX10_nextFrame_15 (fun H locs hw => ?_)
        refine lv_if_eq (pc := 18) (tgt := 29) hx hb dX10_nextFrame_18 (by decide) (fun hc_10 => ?_) (fun hc_10 => ?_)
        · have h := ift hc_10 h
          refine lv_aload_n (pc := 29) hx hb dX10_nextFrame_29 rfl (lv_at hl 1 rfl) ?_
          refine lv_iload_n (pc := 30) hx hb dX10_nextFrame_30 rfl (lv_at hl 2 rfl) ?_
          refine lv_sipush (pc := 31) (v := 588) hx hb dX10_nextFrame_31 (by decide) ?_
          refine lv_iadd (pc := 34) hx hb dX10_nextFrame_34 ?_
          refine lv_iload_n (pc := 35) hx hb dX10_nextFrame_35 rfl (lv_at hl 0 rfl) ?_
          refine lv_iadd (pc := 36) hx hb dX10_nextFrame_36 ?_
          obtain ⟨r_11, hq_12, h⟩ := ob1_at h
          refine x_callV (pc := 37) (rest := []) (stk := [.int r_11]) (wX10_nextFrame cB cI cZ av a_this v_thrown v_size v_begins v_entries v_length v_pressed v_streamFrames v_zeros v_level v_sum v_tail v_isPlayed v_found v_strange v_innerFails v_outerFails v_mostMarks v_unsure v_may v_mocks v_sumThen v_bits) C hw (ct_X10_isSign l D cB cI cZ tw av a_this v_thrown v_size v_begins v_entries v_length v_pressed v_streamFrames v_zeros v_level v_sum v_tail v_isPlayed v_found v_strange v_innerFails v_outerFails v_mostMarks v_unsure v_may v_mocks v_sumThen v_bits ((x1 + (588 : Int32)) + x3_5) r_11 hq_12) cal_X10_isSign tw_1376 (q0 := 0) rfl rfl [0, 1] [] 2 [] rfl rfl rfl rfl rfl rfl rfl rfl rfl rfl rfl (Nat.le_of_ble_eq_true rfl) hl.1 ⟨Nat.le_of_ble_eq_true rfl, Nat.le_of_ble_eq_true rfl⟩ ⟨Nat.zero_le _, Nat.zero_le _⟩ dX10_nextFrame_37 (fun H locs hw => ?_)
          refine lv_if_eq (pc := 40) (tgt := 51) hx hb dX10_nextFrame_40 (by decide) (fun hc_13 => ?_) (fun hc_13 => ?_)
          · have h := ift hc_13 h
            obtain ⟨x3_14, ex3_14⟩ : ∃ y : Int32, y = x3_5 + 1 := ⟨_, rfl⟩
            have h := nm_at ex3_14 h
            refine lv_iinc (pc := 51) (v := x3_14) (lv' := [(3, .int x3_14), (0, .ref a_this), (1, .int x1), (2, .int x2)]) hx hb dX10_nextFrame_51 hl (k := 0) rfl (by rw [ex3_14]; rfl) (by decide) rfl (fun ls hl => ?_)
            refine lv_goto (pc := 54) (tgt := 2) hx hb dX10_nextFrame_54 (by decide) ?_
            exact ih2_6 x3_14 ls _ _ (lv_sub hl [0, 1, 2, 3] rfl) hw h
          · have h := iff' hc_13 h
            exact J43_2 x3_5 ls _ _ (lv_sub hl [0, 2] rfl) hw h
        · have h := iff' hc_10 h
          exact J21_4 x3_5 ls _ _ (lv_sub hl [0, 2] rfl) hw h
  exact Lih2_6 FU 0 ls _ _ (lv_sub hl [0, 1, 2, 3] rfl) hw h
def wX10_findFrames (cB cI cZ : ClassId) (av : Nat → Nat) (a_this : Nat) (v_thrown : Int32) (v_size : Int32) (v_begins : Int32) (v_entries : Int32) (v_length : Int32) (v_pressed : Int32) (v_streamFrames : Int32) (v_zeros : Int32) (v_level : Int32) (v_sum : Int32) (v_tail : Int32) (v_isPlayed : Int32) (v_found : Int32) (v_strange : Int32) (v_innerFails : Int32) (v_outerFails : Int32) (v_mostMarks : Int32) (v_unsure : Int32) (v_may : Int32) (v_mocks : Int32) (v_sumThen : Int32) (v_beside : Nat → Int32) (v_bits : Nat → Int32) (v_foundAt : Nat → Int32) : va_W := [oX10 a_this av v_thrown v_size v_begins v_entries v_length v_pressed v_streamFrames v_zeros v_level v_sum v_tail v_isPlayed v_found v_strange v_innerFails v_outerFails v_mostMarks v_unsure v_may v_mocks v_sumThen, ((av 37), .inl (cI, 640, .inl v_beside)), ((av 13), .inl (cB, 360000, .inl v_bits)), ((av 36), .inl (cI, 640, .inl v_foundAt))]
def fX10_findFrames_L43 (v_length : Int32) (v_bits : Nat → Int32) (x1 : Int32) : Nat → Int32 → Int32 → (Nat → Int32) → (Nat → Int32) → Option (Int32 × (Nat → Int32) × (Nat → Int32))
  | 0, _, _, _, _ => none
  | F43_9 + 1, x2_5, v_found_6, v_beside_7, v_foundAt_8 => if v_length ≤ x2_5 then some (v_found_6, v_beside_7, v_foundAt_8) else og (ixb v_found_6 640) (nm (upd v_foundAt_8 (Int32.toNatClampNeg v_found_6) x2_5) fun v_foundAt_12 => ob1 (fX10_taken v_length v_bits (x2_5 + (27 : Int32)) 14) fun r_13 => og (ixb v_found_6 640) (nm (upd v_beside_7 (Int32.toNatClampNeg v_found_6) r_13) fun v_beside_16 => nm ((v_found_6 + (1 : Int32)) : Int32) fun v_found_17 => ob1 (fX10_nextFrame v_length v_bits x2_5 x1) fun r_18 => fX10_findFrames_L43 v_length v_bits x1 F43_9 r_18 v_found_17 v_beside_16 v_foundAt_12))
def fX10_findFrames_L2 (v_length : Int32) (j24_2 : Int32 → Option (Int32 × (Nat → Int32) × (Nat → Int32))) (v_bits : Nat → Int32) : Nat → Int32 → Option (Int32 × (Nat → Int32) × (Nat → Int32))
  | 0, _ => none
  | F2_22 + 1, x2_21 => if v_length ≤ x2_21 then j24_2 x2_21 else ob1 (fX10_isSign v_length v_bits x2_21) fun r_24 => if r_24 = 0 then nm (x2_21 + 1 : Int32) fun x2_27 => fX10_findFrames_L2 v_length j24_2 v_bits F2_22 x2_27 else j24_2 x2_21
def fX10_findFrames (v_found : Int32) (v_length : Int32) (v_beside : Nat → Int32) (v_bits : Nat → Int32) (v_foundAt : Nat → Int32) (x1 : Int32) : Option (Int32 × (Nat → Int32) × (Nat → Int32)) := jk (fun (x2_1 : Int32) => jk (fun (t_3 : Int32) => fX10_findFrames_L43 v_length v_bits x1 FU t_3 0 v_beside v_foundAt) fun j37_4 => if x2_1 = v_length then j37_4 0 else j37_4 x2_1) fun j24_2 => fX10_findFrames_L2 v_length j24_2 v_bits FU 0
set_option maxHeartbeats 4000000 in
set_option maxRecDepth 100000 in
theorem ct_X10_findFrames (l : Launch) (D : va_G) (cB cI cZ : ClassId) (tw : Nat) (av : Nat → Nat) (a_this : Nat) (v_thrown : Int32) (v_size : Int32) (v_begins : Int32) (v_entries : Int32) (v_length : Int32) (v_pressed : Int32) (v_streamFrames : Int32) (v_zeros : Int32) (v_level : Int32) (v_sum : Int32) (v_tail : Int32) (v_isPlayed : Int32) (v_found : Int32) (v_strange : Int32) (v_innerFails : Int32) (v_outerFails : Int32) (v_mostMarks : Int32) (v_unsure : Int32) (v_may : Int32) (v_mocks : Int32) (v_sumThen : Int32) (v_beside : Nat → Int32) (v_bits : Nat → Int32) (v_foundAt : Nat → Int32) (x1 : Int32) (res : Int32 × (Nat → Int32) × (Nat → Int32)) (h : fX10_findFrames v_found v_length v_beside v_bits v_foundAt x1 = some res) : Ctr l yX10_findFrames cX10_findFrames 3 none (rmK 4 90) D (tyL cB cI cZ) tw [.ref a_this, .int x1] (wX10_findFrames cB cI cZ av a_this v_thrown v_size v_begins v_entries v_length v_pressed v_streamFrames v_zeros v_level v_sum v_tail v_isPlayed v_found v_strange v_innerFails v_outerFails v_mostMarks v_unsure v_may v_mocks v_sumThen v_beside v_bits v_foundAt) (fun _ : Int32 × (Nat → Int32) × (Nat → Int32) => none) (fun res : Int32 × (Nat → Int32) × (Nat → Int32) => (wX10_findFrames cB cI cZ av a_this v_thrown v_size v_begins v_entries v_length v_pressed v_streamFrames v_zeros v_level v_sum v_tail v_isPlayed (res.1) v_strange v_innerFails v_outerFails v_mostMarks v_unsure v_may v_mocks v_sumThen (res.2.1) v_bits (res.2.2))) res := by
  refine ctr_of RX10 (by decide) rfl (Nat.le_of_ble_eq_true rfl) ?_
  intro p e s m below meth c A C hw ls hl
  have hx := C.1
  have hb := C.2.1
  have hl : lv_has ls 3 [(0, .ref a_this), (1, .int x1)] := hl
  unfold fX10_findFrames at h
  refine lv_iconst (pc := 0) (v := 0) hx hb dX10_findFrames_0 (by decide) ?_
  refine lv_istore_n (pc := 1) (lv' := [(2, .int 0), (0, .ref a_this), (1, .int x1)]) hx hb dX10_findFrames_1 rfl hl (by decide) rfl (fun ls hl => ?_)
  obtain ⟨j24_2, ej24_2, h⟩ := jk_at h
  have J24_2 : ∀ (x2_1 : Int32) (ls : Array Slot) (H : Heap) (locs : List Loc), lv_has ls 3 [(2, .int x2_1), (0, .ref a_this), (1, .int x1)] → Wd D A s (wX10_findFrames cB cI cZ av a_this v_thrown v_size v_begins v_entries v_length v_pressed v_streamFrames v_zeros v_level v_sum v_tail v_isPlayed v_found v_strange v_innerFails v_outerFails v_mostMarks v_unsure v_may v_mocks v_sumThen v_beside v_bits v_foundAt) H locs → j24_2 x2_1 = some res → W p l e (rmK 4 90) s m ([.ref a_this, .int x1] : List Value).toArray below meth c H locs 0 0 (MQ below (QG D (tyL cB cI cZ) A (fun _ : Int32 × (Nat → Int32) × (Nat → Int32) => none) (fun res : Int32 × (Nat → Int32) × (Nat → Int32) => (wX10_findFrames cB cI cZ av a_this v_thrown v_size v_begins v_entries v_length v_pressed v_streamFrames v_zeros v_level v_sum v_tail v_isPlayed (res.1) v_strange v_innerFails v_outerFails v_mostMarks v_unsure v_may v_mocks v_sumThen (res.2.1) v_bits (res.2.2))) res) ([.ref a_this, .int x1] : List Value).toArray s 0 0 A) (F0 m 24 ls []) := by
    intro x2_1 ls H locs hl hw h
    have h := k1_at ej24_2 h
    refine lv_iload_n (pc := 24) hx hb dX10_findFrames_24 rfl (lv_at hl 0 rfl) ?_
    refine lv_aload_n (pc := 25) hx hb dX10_findFrames_25 rfl (lv_at hl 1 rfl) ?_
    refine gf_X10_185 (pc := 26) C hw 0 rfl rfl dX10_findFrames_26 ?_
    obtain ⟨j37_4, ej37_4, h⟩ := jk_at h
    have J37_4 : ∀ (t_3 : Int32) (ls : Array Slot) (H : Heap) (locs : List Loc), lv_has ls 3 [(0, .ref a_this), (1, .int x1)] → Wd D A s (wX10_findFrames cB cI cZ av a_this v_thrown v_size v_begins v_entries v_length v_pressed v_streamFrames v_zeros v_level v_sum v_tail v_isPlayed v_found v_strange v_innerFails v_outerFails v_mostMarks v_unsure v_may v_mocks v_sumThen v_beside v_bits v_foundAt) H locs → j37_4 t_3 = some res → W p l e (rmK 4 90) s m ([.ref a_this, .int x1] : List Value).toArray below meth c H locs 0 0 (MQ below (QG D (tyL cB cI cZ) A (fun _ : Int32 × (Nat → Int32) × (Nat → Int32) => none) (fun res : Int32 × (Nat → Int32) × (Nat → Int32) => (wX10_findFrames cB cI cZ av a_this v_thrown v_size v_begins v_entries v_length v_pressed v_streamFrames v_zeros v_level v_sum v_tail v_isPlayed (res.1) v_strange v_innerFails v_outerFails v_mostMarks v_unsure v_may v_mocks v_sumThen (res.2.1) v_bits (res.2.2))) res) ([.ref a_this, .int x1] : List Value).toArray s 0 0 A) (F0 m 37 ls [.int t_3]) := by
      intro t_3 ls H locs hl hw h
      have h := k1_at ej37_4 h
      refine lv_istore_n (pc := 37) (lv' := [(2, .int t_3), (0, .ref a_this), (1, .int x1)]) hx hb dX10_findFrames_37 rfl hl (by decide) rfl (fun ls hl => ?_)
      refine lv_aload_n (pc := 38) hx hb dX10_findFrames_38 rfl (lv_at hl 1 rfl) ?_
      refine lv_iconst (pc := 39) (v := 0) hx hb dX10_findFrames_39 (by decide) ?_
      refine pf_X10_296 (pc := 40) (wX10_findFrames cB cI cZ av a_this v_thrown v_size v_begins v_entries v_length v_pressed v_streamFrames v_zeros v_level v_sum v_tail v_isPlayed 0 v_strange v_innerFails v_outerFails v_mostMarks v_unsure v_may v_mocks v_sumThen v_beside v_bits v_foundAt) C hw 0 rfl rfl rfl rfl (Nat.le_of_ble_eq_true rfl) dX10_findFrames_40 (fun H locs hw => ?_)
      have Lih43_9 : ∀ (F : Nat) (x2_5 : Int32) (v_found_6 : Int32) (v_beside_7 : Nat → Int32) (v_foundAt_8 : Nat → Int32) (ls : Array Slot) (H : Heap) (locs : List Loc), lv_has ls 3 [(2, .int x2_5), (0, .ref a_this), (1, .int x1)] → Wd D A s (wX10_findFrames cB cI cZ av a_this v_thrown v_size v_begins v_entries v_length v_pressed v_streamFrames v_zeros v_level v_sum v_tail v_isPlayed v_found_6 v_strange v_innerFails v_outerFails v_mostMarks v_unsure v_may v_mocks v_sumThen v_beside_7 v_bits v_foundAt_8) H locs → fX10_findFrames_L43 v_length v_bits x1 F x2_5 v_found_6 v_beside_7 v_foundAt_8 = some res → W p l e (rmK 4 90) s m ([.ref a_this, .int x1] : List Value).toArray below meth c H locs 0 0 (MQ below (QG D (tyL cB cI cZ) A (fun _ : Int32 × (Nat → Int32) × (Nat → Int32) => none) (fun res : Int32 × (Nat → Int32) × (Nat → Int32) => (wX10_findFrames cB cI cZ av a_this v_thrown v_size v_begins v_entries v_length v_pressed v_streamFrames v_zeros v_level v_sum v_tail v_isPlayed (res.1) v_strange v_innerFails v_outerFails v_mostMarks v_unsure v_may v_mocks v_sumThen (res.2.1) v_bits (res.2.2))) res) ([.ref a_this, .int x1] : List Value).toArray s 0 0 A) (F0 m 43 ls []) := by
        intro F
        induction F with
        | zero => intro x2_5 v_found_6 v_beside_7 v_foundAt_8 ls H locs hl hw h; rw [fX10_findFrames_L43.eq_1] at h; cases h
        | succ F43_9 ih43_9 =>
          intro x2_5 v_found_6 v_beside_7 v_foundAt_8 ls H locs hl hw h
          rw [fX10_findFrames_L43.eq_2] at h
          refine lv_iload_n (pc := 43) hx hb dX10_findFrames_43 rfl (lv_at hl 0 rfl) ?_
          refine lv_aload_n (pc := 44) hx hb dX10_findFrames_44 rfl (lv_at hl 1 rfl) ?_
          refine gf_X10_185 (pc := 45) C hw 0 rfl rfl dX10_findFrames_45 ?_
          refine lv_icmp_ge (pc := 48) (tgt := 100) hx hb dX10_findFrames_48 (by decide) (fun hc_10 => ?_) (fun hc_10 => ?_)
          · have h := ift hc_10 h
            exact x_vret (pc := 100) (v := (v_found_6, v_beside_7, v_foundAt_8)) C (Option.some.inj h) rfl hw dX10_findFrames_100
          · have h := iff' hc_10 h
            refine lv_aload_n (pc := 51) hx hb dX10_findFrames_51 rfl (lv_at hl 1 rfl) ?_
            refine gf_X10_82 (pc := 52) C hw 0 rfl rfl dX10_findFrames_52 ?_
            refine lv_aload_n (pc := 55) hx hb dX10_findFrames_55 rfl (lv_at hl 1 rfl) ?_
            refine gf_X10_296 (pc := 56) C hw 0 rfl rfl dX10_findFrames_56 ?_
            refine lv_iload_n (pc := 59) hx hb dX10_findFrames_59 rfl (lv_at hl 0 rfl) ?_
            obtain ⟨hi_11, h⟩ := og_at h
            obtain ⟨v_foundAt_12, ev_foundAt_12⟩ : ∃ y : Nat → Int32, y = upd v_foundAt_8 (Int32.toNatClampNeg v_found_6) x2_5 := ⟨_, rfl⟩
            have h := nm_at ev_foundAt_12 h
            refine x_iast (pc := 60) (wX10_findFrames cB cI cZ av a_this v_thrown v_size v_begins v_entries v_length v_pressed v_streamFrames v_zeros v_level v_sum v_tail v_isPlayed v_found_6 v_strange v_innerFails v_outerFails v_mostMarks v_unsure v_may v_mocks v_sumThen v_beside_7 v_bits v_foundAt_12) C hw 3 rfl hi_11 (by rw [ev_foundAt_12]; rfl) dX10_findFrames_60 (fun H locs hw => ?_)
            refine lv_aload_n (pc := 61) hx hb dX10_findFrames_61 rfl (lv_at hl 1 rfl) ?_
            refine gf_X10_85 (pc := 62) C hw 0 rfl rfl dX10_findFrames_62 ?_
            refine lv_aload_n (pc := 65) hx hb dX10_findFrames_65 rfl (lv_at hl 1 rfl) ?_
            refine gf_X10_296 (pc := 66) C hw 0 rfl rfl dX10_findFrames_66 ?_
            refine lv_aload_n (pc := 69) hx hb dX10_findFrames_69 rfl (lv_at hl 1 rfl) ?_
            refine lv_iload_n (pc := 70) hx hb dX10_findFrames_70 rfl (lv_at hl 0 rfl) ?_
            refine lv_bipush (pc := 71) (v := 27) hx hb dX10_findFrames_71 (by decide) ?_
            refine lv_iadd (pc := 73) hx hb dX10_findFrames_73 ?_
            refine lv_bipush (pc := 74) (v := 14) hx hb dX10_findFrames_74 (by decide) ?_
            obtain ⟨r_13, hq_14, h⟩ := ob1_at h
            refine x_callV (pc := 76) (rest := [.int v_found_6, .ref (av 37)]) (stk := [.int r_13, .int v_found_6, .ref (av 37)]) (wX10_findFrames cB cI cZ av a_this v_thrown v_size v_begins v_entries v_length v_pressed v_streamFrames v_zeros v_level v_sum v_tail v_isPlayed v_found_6 v_strange v_innerFails v_outerFails v_mostMarks v_unsure v_may v_mocks v_sumThen v_beside_7 v_bits v_foundAt_12) C hw (ct_X10_taken l D cB cI cZ tw av a_this v_thrown v_size v_begins v_entries v_length v_pressed v_streamFrames v_zeros v_level v_sum v_tail v_isPlayed v_found_6 v_strange v_innerFails v_outerFails v_mostMarks v_unsure v_may v_mocks v_sumThen v_bits (x2_5 + (27 : Int32)) 14 r_13 hq_14) cal_X10_taken tw_1345 (q0 := 0) rfl rfl [0, 2] [1, 3] 4 [((av 37), .inl (cI, 640, .inl v_beside_7)), ((av 36), .inl (cI, 640, .inl v_foundAt_12))] rfl rfl rfl rfl rfl rfl rfl rfl rfl rfl rfl (Nat.le_of_ble_eq_true rfl) hl.1 ⟨Nat.le_of_ble_eq_true rfl, Nat.le_of_ble_eq_true rfl⟩ ⟨Nat.zero_le _, Nat.zero_le _⟩ dX10_findFrames_76 (fun H locs hw => ?_)
            obtain ⟨hi_15, h⟩ := og_at h
            obtain ⟨v_beside_16, ev_beside_16⟩ : ∃ y : Nat → Int32, y = upd v_beside_7 (Int32.toNatClampNeg v_found_6) r_13 := ⟨_, rfl⟩
            have h := nm_at ev_beside_16 h
            refine x_iast (pc := 79) (wX10_findFrames cB cI cZ av a_this v_thrown v_size v_begins v_entries v_length v_pressed v_streamFrames v_zeros v_level v_sum v_tail v_isPlayed v_found_6 v_strange v_innerFails v_outerFails v_mostMarks v_unsure v_may v_mocks v_sumThen v_beside_16 v_bits v_foundAt_12) C hw 1 rfl hi_15 (by rw [ev_beside_16]; rfl) dX10_findFrames_79 (fun H locs hw => ?_)
            refine lv_aload_n (pc := 80) hx hb dX10_findFrames_80 rfl (lv_at hl 1 rfl) ?_
            refine lv_dup (pc := 81) hx hb dX10_findFrames_81 rfl ?_
            refine gf_X10_296 (pc := 82) C hw 0 rfl rfl dX10_findFrames_82 ?_
            refine lv_iconst (pc := 85) (v := 1) hx hb dX10_findFrames_85 (by decide) ?_
            refine lv_iadd (pc := 86) hx hb dX10_findFrames_86 ?_
            refine lv_topi (pc := 87) (fun v_found_17 ev_found_17 => ?_)
            have h := nm_at ev_found_17 h
            refine pf_X10_296 (pc := 87) (wX10_findFrames cB cI cZ av a_this v_thrown v_size v_begins v_entries v_length v_pressed v_streamFrames v_zeros v_level v_sum v_tail v_isPlayed v_found_17 v_strange v_innerFails v_outerFails v_mostMarks v_unsure v_may v_mocks v_sumThen v_beside_16 v_bits v_foundAt_12) C hw 0 rfl rfl rfl rfl (Nat.le_of_ble_eq_true rfl) dX10_findFrames_87 (fun H locs hw => ?_)
            refine lv_aload_n (pc := 90) hx hb dX10_findFrames_90 rfl (lv_at hl 1 rfl) ?_
            refine lv_iload_n (pc := 91) hx hb dX10_findFrames_91 rfl (lv_at hl 0 rfl) ?_
            refine lv_iload_n (pc := 92) hx hb dX10_findFrames_92 rfl (lv_at hl 2 rfl) ?_
            obtain ⟨r_18, hq_19, h⟩ := ob1_at h
            refine x_callV (pc := 93) (rest := []) (stk := [.int r_18]) (wX10_findFrames cB cI cZ av a_this v_thrown v_size v_begins v_entries v_length v_pressed v_streamFrames v_zeros v_level v_sum v_tail v_isPlayed v_found_17 v_strange v_innerFails v_outerFails v_mostMarks v_unsure v_may v_mocks v_sumThen v_beside_16 v_bits v_foundAt_12) C hw (ct_X10_nextFrame l D cB cI cZ tw av a_this v_thrown v_size v_begins v_entries v_length v_pressed v_streamFrames v_zeros v_level v_sum v_tail v_isPlayed v_found_17 v_strange v_innerFails v_outerFails v_mostMarks v_unsure v_may v_mocks v_sumThen v_bits x2_5 x1 r_18 hq_19) cal_X10_nextFrame tw_1418 (q0 := 0) rfl rfl [0, 2] [1, 3] 4 [((av 37), .inl (cI, 640, .inl v_beside_16)), ((av 36), .inl (cI, 640, .inl v_foundAt_12))] rfl rfl rfl rfl rfl rfl rfl rfl rfl rfl rfl (Nat.le_of_ble_eq_true rfl) hl.1 ⟨Nat.le_of_ble_eq_true rfl, Nat.le_of_ble_eq_true rfl⟩ ⟨Nat.zero_le _, Nat.zero_le _⟩ dX10_findFrames_93 (fun H locs hw => ?_)
            refine lv_istore_n (pc := 96) (lv' := [(2, .int r_18), (0, .ref a_this), (1, .int x1)]) hx hb dX10_findFrames_96 rfl hl (by decide) rfl (fun ls hl => ?_)
            refine lv_goto (pc := 97) (tgt := 43) hx hb dX10_findFrames_97 (by decide) ?_
            exact ih43_9 r_18 v_found_17 v_beside_16 v_foundAt_12 ls _ _ (lv_sub hl [0, 1, 2] rfl) hw h
      exact Lih43_9 FU t_3 0 v_beside v_foundAt ls _ _ (lv_sub hl [0, 1, 2] rfl) hw h
    refine lv_icmp_ne (pc := 29) (tgt := 36) hx hb dX10_findFrames_29 (by decide) (fun hc_20 => ?_) (fun hc_20 => ?_)
    · have h := iff' hc_20 h
      refine lv_iload_n (pc := 36) hx hb dX10_findFrames_36 rfl (lv_at hl 0 rfl) ?_
      exact J37_4 x2_1 ls _ _ (lv_sub hl [1, 2] rfl) hw h
    · have h := ift hc_20 h
      refine lv_iconst (pc := 32) (v := 0) hx hb dX10_findFrames_32 (by decide) ?_
      refine lv_goto (pc := 33) (tgt := 37) hx hb dX10_findFrames_33 (by decide) ?_
      exact J37_4 0 ls _ _ (lv_sub hl [1, 2] rfl) hw h
  have Lih2_22 : ∀ (F : Nat) (x2_21 : Int32) (ls : Array Slot) (H : Heap) (locs : List Loc), lv_has ls 3 [(2, .int x2_21), (0, .ref a_this), (1, .int x1)] → Wd D A s (wX10_findFrames cB cI cZ av a_this v_thrown v_size v_begins v_entries v_length v_pressed v_streamFrames v_zeros v_level v_sum v_tail v_isPlayed v_found v_strange v_innerFails v_outerFails v_mostMarks v_unsure v_may v_mocks v_sumThen v_beside v_bits v_foundAt) H locs → fX10_findFrames_L2 v_length j24_2 v_bits F x2_21 = some res → W p l e (rmK 4 90) s m ([.ref a_this, .int x1] : List Value).toArray below meth c H locs 0 0 (MQ below (QG D (tyL cB cI cZ) A (fun _ : Int32 × (Nat → Int32) × (Nat → Int32) => none) (fun res : Int32 × (Nat → Int32) × (Nat → Int32) => (wX10_findFrames cB cI cZ av a_this v_thrown v_size v_begins v_entries v_length v_pressed v_streamFrames v_zeros v_level v_sum v_tail v_isPlayed (res.1) v_strange v_innerFails v_outerFails v_mostMarks v_unsure v_may v_mocks v_sumThen (res.2.1) v_bits (res.2.2))) res) ([.ref a_this, .int x1] : List Value).toArray s 0 0 A) (F0 m 2 ls []) := by
    intro F
    induction F with
    | zero => intro x2_21 ls H locs hl hw h; rw [fX10_findFrames_L2.eq_1] at h; cases h
    | succ F2_22 ih2_22 =>
      intro x2_21 ls H locs hl hw h
      rw [fX10_findFrames_L2.eq_2] at h
      refine lv_iload_n (pc := 2) hx hb dX10_findFrames_2 rfl (lv_at hl 0 rfl) ?_
      refine lv_aload_n (pc := 3) hx hb dX10_findFrames_3 rfl (lv_at hl 1 rfl) ?_
      refine gf_X10_185 (pc := 4) C hw 0 rfl rfl dX10_findFrames_4 ?_
      refine lv_icmp_ge (pc := 7) (tgt := 24) hx hb dX10_findFrames_7 (by decide) (fun hc_23 => ?_) (fun hc_23 => ?_)
      · have h := ift hc_23 h
        exact J24_2 x2_21 ls _ _ (lv_sub hl [0, 1, 2] rfl) hw h
      · have h := iff' hc_23 h
        refine lv_aload_n (pc := 10) hx hb dX10_findFrames_10 rfl (lv_at hl 1 rfl) ?_
        refine lv_iload_n (pc := 11) hx hb dX10_findFrames_11 rfl (lv_at hl 0 rfl) ?_
        obtain ⟨r_24, hq_25, h⟩ := ob1_at h
        refine x_callV (pc := 12) (rest := []) (stk := [.int r_24]) (wX10_findFrames cB cI cZ av a_this v_thrown v_size v_begins v_entries v_length v_pressed v_streamFrames v_zeros v_level v_sum v_tail v_isPlayed v_found v_strange v_innerFails v_outerFails v_mostMarks v_unsure v_may v_mocks v_sumThen v_beside v_bits v_foundAt) C hw (ct_X10_isSign l D cB cI cZ tw av a_this v_thrown v_size v_begins v_entries v_length v_pressed v_streamFrames v_zeros v_level v_sum v_tail v_isPlayed v_found v_strange v_innerFails v_outerFails v_mostMarks v_unsure v_may v_mocks v_sumThen v_bits x2_21 r_24 hq_25) cal_X10_isSign tw_1376 (q0 := 0) rfl rfl [0, 2] [1, 3] 4 [((av 37), .inl (cI, 640, .inl v_beside)), ((av 36), .inl (cI, 640, .inl v_foundAt))] rfl rfl rfl rfl rfl rfl rfl rfl rfl rfl rfl (Nat.le_of_ble_eq_true rfl) hl.1 ⟨Nat.le_of_ble_eq_true rfl, Nat.le_of_ble_eq_true rfl⟩ ⟨Nat.zero_le _, Nat.zero_le _⟩ dX10_findFrames_12 (fun H locs hw => ?_)
        refine lv_if_ne (pc := 15) (tgt := 24) hx hb dX10_findFrames_15 (by decide) (fun hc_26 => ?_) (fun hc_26 => ?_)
        · have h := iff' hc_26 h
          exact J24_2 x2_21 ls _ _ (lv_sub hl [0, 1, 2] rfl) hw h
        · have h := ift hc_26 h
          obtain ⟨x2_27, ex2_27⟩ : ∃ y : Int32, y = x2_21 + 1 := ⟨_, rfl⟩
          have h := nm_at ex2_27 h
          refine lv_iinc (pc := 18) (v := x2_27) (lv' := [(2, .int x2_27), (0, .ref a_this), (1, .int x1)]) hx hb dX10_findFrames_18 hl (k := 0) rfl (by rw [ex2_27]; rfl) (by decide) rfl (fun ls hl => ?_)
          refine lv_goto (pc := 21) (tgt := 2) hx hb dX10_findFrames_21 (by decide) ?_
          exact ih2_22 x2_27 ls _ _ (lv_sub hl [0, 1, 2] rfl) hw h
  exact Lih2_22 FU 0 ls _ _ (lv_sub hl [0, 1, 2] rfl) hw h
def wX10_readInner (cB cI cZ : ClassId) (av : Nat → Nat) (a_this : Nat) (v_thrown : Int32) (v_size : Int32) (v_begins : Int32) (v_entries : Int32) (v_length : Int32) (v_pressed : Int32) (v_streamFrames : Int32) (v_zeros : Int32) (v_level : Int32) (v_sum : Int32) (v_tail : Int32) (v_isPlayed : Int32) (v_found : Int32) (v_strange : Int32) (v_innerFails : Int32) (v_outerFails : Int32) (v_mostMarks : Int32) (v_unsure : Int32) (v_may : Int32) (v_mocks : Int32) (v_sumThen : Int32) (v_bits : Nat → Int32) (v_bytesOf : Nat → Int32) (v_foundAt : Nat → Int32) (v_innerMarks : Nat → Int32) (v_inners : Nat → Int32) : va_W := [oX10 a_this av v_thrown v_size v_begins v_entries v_length v_pressed v_streamFrames v_zeros v_level v_sum v_tail v_isPlayed v_found v_strange v_innerFails v_outerFails v_mostMarks v_unsure v_may v_mocks v_sumThen, ((av 13), .inl (cB, 360000, .inl v_bits)), ((av 2), .inl (cI, 16384, .inl v_bytesOf)), ((av 36), .inl (cI, 640, .inl v_foundAt)), ((av 29), .inl (cZ, 20480, .inl v_innerMarks)), ((av 28), .inl (cI, 20480, .inl v_inners))]
def fX10_readInner (v_found : Int32) (v_length : Int32) (v_bits : Nat → Int32) (v_bytesOf : Nat → Int32) (v_foundAt : Nat → Int32) (v_innerMarks : Nat → Int32) (v_inners : Nat → Int32) (x1 : Int32) (x2 : Int32) : Option ((Nat → Int32) × (Nat → Int32)) := jk (fun (t_1 : Int32) => nm ((((32 : Int32) * x1) + x2) : Int32) fun x4_3 => og (ixb x4_3 20480) (nm (upd v_inners (Int32.toNatClampNeg x4_3) 0) fun v_inners_5 => og (ixb x4_3 20480) (nm (upd v_innerMarks (Int32.toNatClampNeg x4_3) (vp_nar .boolean 1)) fun v_innerMarks_7 => if t_1 < v_found then og (ixb t_1 640) (ob1 (fX10_taken v_length v_bits (((v_foundAt (Int32.toNatClampNeg t_1)) + (27 : Int32)) + ((17 : Int32) * (x2 + (1 : Int32)))) 14) fun r_10 => og (ixb r_10 16384) (nm ((v_bytesOf (Int32.toNatClampNeg r_10)) : Int32) fun x5_13 => jk (fun (t_14 : Int32) => og (ixb x4_3 20480) (nm (upd v_innerMarks_7 (Int32.toNatClampNeg x4_3) (vp_nar .boolean t_14)) fun v_innerMarks_17 => jk (fun (t_18 : Int32) => nt1 (fX10_isTurned x2) fun r_20 => jk (fun (t_22 : Int32) => og (ixb x4_3 20480) (nm (upd v_inners_5 (Int32.toNatClampNeg x4_3) t_22) fun v_inners_25 => some (v_innerMarks_17, v_inners_25))) fun j130_23 => if r_20 = 0 then j130_23 t_18 else j130_23 ((255 : Int32) - t_18)) fun j104_19 => if 0 ≤ x5_13 then j104_19 x5_13 else j104_19 0)) fun j92_15 => if 0 ≤ x5_13 then j92_15 0 else j92_15 1)) else some (v_innerMarks_7, v_inners_5)))) fun j13_2 => if (x2 - x2 / (2 : Int32) * (2 : Int32)) = 0 then j13_2 (x1 + (1 : Int32)) else j13_2 x1
set_option maxHeartbeats 4000000 in
set_option maxRecDepth 100000 in
theorem ct_X10_readInner (l : Launch) (D : va_G) (cB cI cZ : ClassId) (tw : Nat) (av : Nat → Nat) (a_this : Nat) (v_thrown : Int32) (v_size : Int32) (v_begins : Int32) (v_entries : Int32) (v_length : Int32) (v_pressed : Int32) (v_streamFrames : Int32) (v_zeros : Int32) (v_level : Int32) (v_sum : Int32) (v_tail : Int32) (v_isPlayed : Int32) (v_found : Int32) (v_strange : Int32) (v_innerFails : Int32) (v_outerFails : Int32) (v_mostMarks : Int32) (v_unsure : Int32) (v_may : Int32) (v_mocks : Int32) (v_sumThen : Int32) (v_bits : Nat → Int32) (v_bytesOf : Nat → Int32) (v_foundAt : Nat → Int32) (v_innerMarks : Nat → Int32) (v_inners : Nat → Int32) (x1 : Int32) (x2 : Int32) (res : (Nat → Int32) × (Nat → Int32)) (h : fX10_readInner v_found v_length v_bits v_bytesOf v_foundAt v_innerMarks v_inners x1 x2 = some res) : Ctr l yX10_readInner cX10_readInner 6 none (rmK 2 45) D (tyL cB cI cZ) tw [.ref a_this, .int x1, .int x2] (wX10_readInner cB cI cZ av a_this v_thrown v_size v_begins v_entries v_length v_pressed v_streamFrames v_zeros v_level v_sum v_tail v_isPlayed v_found v_strange v_innerFails v_outerFails v_mostMarks v_unsure v_may v_mocks v_sumThen v_bits v_bytesOf v_foundAt v_innerMarks v_inners) (fun _ : (Nat → Int32) × (Nat → Int32) => none) (fun res : (Nat → Int32) × (Nat → Int32) => (wX10_readInner cB cI cZ av a_this v_thrown v_size v_begins v_entries v_length v_pressed v_streamFrames v_zeros v_level v_sum v_tail v_isPlayed v_found v_strange v_innerFails v_outerFails v_mostMarks v_unsure v_may v_mocks v_sumThen v_bits v_bytesOf v_foundAt (res.1) (res.2))) res := by
  refine ctr_of RX10 (by decide) rfl (Nat.le_of_ble_eq_true rfl) ?_
  intro p e s m below meth c A C hw ls hl
  have hx := C.1
  have hb := C.2.1
  have hl : lv_has ls 6 [(0, .ref a_this), (1, .int x1), (2, .int x2)] := hl
  unfold fX10_readInner at h
  refine lv_iload_n (pc := 0) hx hb dX10_readInner_0 rfl (lv_at hl 2 rfl) ?_
  refine lv_iconst (pc := 1) (v := 2) hx hb dX10_readInner_1 (by decide) ?_
  refine lv_irem (pc := 2) hx hb dX10_readInner_2 (by decide) ?_
  obtain ⟨j13_2, ej13_2, h⟩ := jk_at h
  have J13_2 : ∀ (t_1 : Int32) (ls : Array Slot) (H : Heap) (locs : List Loc), lv_has ls 6 [(0, .ref a_this), (1, .int x1), (2, .int x2)] → Wd D A s (wX10_readInner cB cI cZ av a_this v_thrown v_size v_begins v_entries v_length v_pressed v_streamFrames v_zeros v_level v_sum v_tail v_isPlayed v_found v_strange v_innerFails v_outerFails v_mostMarks v_unsure v_may v_mocks v_sumThen v_bits v_bytesOf v_foundAt v_innerMarks v_inners) H locs → j13_2 t_1 = some res → W p l e (rmK 2 45) s m ([.ref a_this, .int x1, .int x2] : List Value).toArray below meth c H locs 0 0 (MQ below (QG D (tyL cB cI cZ) A (fun _ : (Nat → Int32) × (Nat → Int32) => none) (fun res : (Nat → Int32) × (Nat → Int32) => (wX10_readInner cB cI cZ av a_this v_thrown v_size v_begins v_entries v_length v_pressed v_streamFrames v_zeros v_level v_sum v_tail v_isPlayed v_found v_strange v_innerFails v_outerFails v_mostMarks v_unsure v_may v_mocks v_sumThen v_bits v_bytesOf v_foundAt (res.1) (res.2))) res) ([.ref a_this, .int x1, .int x2] : List Value).toArray s 0 0 A) (F0 m 13 ls [.int t_1]) := by
    intro t_1 ls H locs hl hw h
    have h := k1_at ej13_2 h
    refine lv_istore_n (pc := 13) (lv' := [(3, .int t_1), (0, .ref a_this), (1, .int x1), (2, .int x2)]) hx hb dX10_readInner_13 rfl hl (by decide) rfl (fun ls hl => ?_)
    refine lv_bipush (pc := 14) (v := 32) hx hb dX10_readInner_14 (by decide) ?_
    refine lv_iload_n (pc := 16) hx hb dX10_readInner_16 rfl (lv_at hl 2 rfl) ?_
    refine lv_imul (pc := 17) hx hb dX10_readInner_17 ?_
    refine lv_iload_n (pc := 18) hx hb dX10_readInner_18 rfl (lv_at hl 3 rfl) ?_
    refine lv_iadd (pc := 19) hx hb dX10_readInner_19 ?_
    refine lv_topi (pc := 20) (fun x4_3 ex4_3 => ?_)
    have h := nm_at ex4_3 h
    refine lv_istore (pc := 20) (lv' := [(4, .int x4_3), (3, .int t_1), (0, .ref a_this), (1, .int x1), (2, .int x2)]) hx hb dX10_readInner_20 hl (by decide) rfl (fun ls hl => ?_)
    refine lv_aload_n (pc := 22) hx hb dX10_readInner_22 rfl (lv_at hl 2 rfl) ?_
    refine gf_X10_64 (pc := 23) C hw 0 rfl rfl dX10_readInner_23 ?_
    refine lv_iload (pc := 26) hx hb dX10_readInner_26 (lv_at hl 0 rfl) ?_
    refine lv_iconst (pc := 28) (v := 0) hx hb dX10_readInner_28 (by decide) ?_
    obtain ⟨hi_4, h⟩ := og_at h
    obtain ⟨v_inners_5, ev_inners_5⟩ : ∃ y : Nat → Int32, y = upd v_inners (Int32.toNatClampNeg x4_3) 0 := ⟨_, rfl⟩
    have h := nm_at ev_inners_5 h
    refine x_iast (pc := 29) (wX10_readInner cB cI cZ av a_this v_thrown v_size v_begins v_entries v_length v_pressed v_streamFrames v_zeros v_level v_sum v_tail v_isPlayed v_found v_strange v_innerFails v_outerFails v_mostMarks v_unsure v_may v_mocks v_sumThen v_bits v_bytesOf v_foundAt v_innerMarks v_inners_5) C hw 5 rfl hi_4 (by rw [ev_inners_5]; rfl) dX10_readInner_29 (fun H locs hw => ?_)
    refine lv_aload_n (pc := 30) hx hb dX10_readInner_30 rfl (lv_at hl 2 rfl) ?_
    refine gf_X10_67 (pc := 31) C hw 0 rfl rfl dX10_readInner_31 ?_
    refine lv_iload (pc := 34) hx hb dX10_readInner_34 (lv_at hl 0 rfl) ?_
    refine lv_iconst (pc := 36) (v := 1) hx hb dX10_readInner_36 (by decide) ?_
    obtain ⟨hi_6, h⟩ := og_at h
    obtain ⟨v_innerMarks_7, ev_innerMarks_7⟩ : ∃ y : Nat → Int32, y = upd v_innerMarks (Int32.toNatClampNeg x4_3) (vp_nar .boolean 1) := ⟨_, rfl⟩
    have h := nm_at ev_innerMarks_7 h
    refine x_zast (pc := 37) (wX10_readInner cB cI cZ av a_this v_thrown v_size v_begins v_entries v_length v_pressed v_streamFrames v_zeros v_level v_sum v_tail v_isPlayed v_found v_strange v_innerFails v_outerFails v_mostMarks v_unsure v_may v_mocks v_sumThen v_bits v_bytesOf v_foundAt v_innerMarks_7 v_inners_5) C hw 4 rfl hi_6 (by rw [ev_innerMarks_7]; rfl) dX10_readInner_37 (fun H locs hw => ?_)
    refine lv_iload_n (pc := 38) hx hb dX10_readInner_38 rfl (lv_at hl 1 rfl) ?_
    refine lv_aload_n (pc := 39) hx hb dX10_readInner_39 rfl (lv_at hl 2 rfl) ?_
    refine gf_X10_296 (pc := 40) C hw 0 rfl rfl dX10_readInner_40 ?_
    refine lv_icmp_lt (pc := 43) (tgt := 47) hx hb dX10_readInner_43 (by decide) (fun hc_8 => ?_) (fun hc_8 => ?_)
    · have h := ift hc_8 h
      refine lv_aload_n (pc := 47) hx hb dX10_readInner_47 rfl (lv_at hl 2 rfl) ?_
      refine gf_X10_13 (pc := 48) C hw 0 rfl rfl dX10_readInner_48 ?_
      refine lv_aload_n (pc := 51) hx hb dX10_readInner_51 rfl (lv_at hl 2 rfl) ?_
      refine lv_aload_n (pc := 52) hx hb dX10_readInner_52 rfl (lv_at hl 2 rfl) ?_
      refine gf_X10_82 (pc := 53) C hw 0 rfl rfl dX10_readInner_53 ?_
      refine lv_iload_n (pc := 56) hx hb dX10_readInner_56 rfl (lv_at hl 1 rfl) ?_
      obtain ⟨hi_9, h⟩ := og_at h
      refine x_iald (pc := 57) C hw 3 rfl hi_9 dX10_readInner_57 ?_
      refine lv_bipush (pc := 58) (v := 27) hx hb dX10_readInner_58 (by decide) ?_
      refine lv_iadd (pc := 60) hx hb dX10_readInner_60 ?_
      refine lv_bipush (pc := 61) (v := 17) hx hb dX10_readInner_61 (by decide) ?_
      refine lv_iload_n (pc := 63) hx hb dX10_readInner_63 rfl (lv_at hl 4 rfl) ?_
      refine lv_iconst (pc := 64) (v := 1) hx hb dX10_readInner_64 (by decide) ?_
      refine lv_iadd (pc := 65) hx hb dX10_readInner_65 ?_
      refine lv_imul (pc := 66) hx hb dX10_readInner_66 ?_
      refine lv_iadd (pc := 67) hx hb dX10_readInner_67 ?_
      refine lv_bipush (pc := 68) (v := 14) hx hb dX10_readInner_68 (by decide) ?_
      obtain ⟨r_10, hq_11, h⟩ := ob1_at h
      refine x_callV (pc := 70) (rest := [.ref (av 2)]) (stk := [.int r_10, .ref (av 2)]) (wX10_readInner cB cI cZ av a_this v_thrown v_size v_begins v_entries v_length v_pressed v_streamFrames v_zeros v_level v_sum v_tail v_isPlayed v_found v_strange v_innerFails v_outerFails v_mostMarks v_unsure v_may v_mocks v_sumThen v_bits v_bytesOf v_foundAt v_innerMarks_7 v_inners_5) C hw (ct_X10_taken l D cB cI cZ tw av a_this v_thrown v_size v_begins v_entries v_length v_pressed v_streamFrames v_zeros v_level v_sum v_tail v_isPlayed v_found v_strange v_innerFails v_outerFails v_mostMarks v_unsure v_may v_mocks v_sumThen v_bits (((v_foundAt (Int32.toNatClampNeg t_1)) + (27 : Int32)) + ((17 : Int32) * (x2 + (1 : Int32)))) 14 r_10 hq_11) cal_X10_taken tw_1345 (q0 := 0) rfl rfl [0, 1] [2, 3, 4, 5] 6 [((av 2), .inl (cI, 16384, .inl v_bytesOf)), ((av 36), .inl (cI, 640, .inl v_foundAt)), ((av 29), .inl (cZ, 20480, .inl v_innerMarks_7)), ((av 28), .inl (cI, 20480, .inl v_inners_5))] rfl rfl rfl rfl rfl rfl rfl rfl rfl rfl rfl (Nat.le_of_ble_eq_true rfl) hl.1 ⟨Nat.le_of_ble_eq_true rfl, Nat.le_of_ble_eq_true rfl⟩ ⟨Nat.zero_le _, Nat.zero_le _⟩ dX10_readInner_70 (fun H locs hw => ?_)
      obtain ⟨hi_12, h⟩ := og_at h
      refine x_iald (pc := 73) C hw 2 rfl hi_12 dX10_readInner_73 ?_
      refine lv_topi (pc := 74) (fun x5_13 ex5_13 => ?_)
      have h := nm_at ex5_13 h
      refine lv_istore (pc := 74) (lv' := [(5, .int x5_13), (4, .int x4_3), (3, .int t_1), (0, .ref a_this), (1, .int x1), (2, .int x2)]) hx hb dX10_readInner_74 hl (by decide) rfl (fun ls hl => ?_)
      refine lv_aload_n (pc := 76) hx hb dX10_readInner_76 rfl (lv_at hl 3 rfl) ?_
      refine gf_X10_67 (pc := 77) C hw 0 rfl rfl dX10_readInner_77 ?_
      refine lv_iload (pc := 80) hx hb dX10_readInner_80 (lv_at hl 1 rfl) ?_
      refine lv_iload (pc := 82) hx hb dX10_readInner_82 (lv_at hl 0 rfl) ?_
      obtain ⟨j92_15, ej92_15, h⟩ := jk_at h
      have J92_15 : ∀ (t_14 : Int32) (ls : Array Slot) (H : Heap) (locs : List Loc), lv_has ls 6 [(5, .int x5_13), (4, .int x4_3), (0, .ref a_this), (2, .int x2)] → Wd D A s (wX10_readInner cB cI cZ av a_this v_thrown v_size v_begins v_entries v_length v_pressed v_streamFrames v_zeros v_level v_sum v_tail v_isPlayed v_found v_strange v_innerFails v_outerFails v_mostMarks v_unsure v_may v_mocks v_sumThen v_bits v_bytesOf v_foundAt v_innerMarks_7 v_inners_5) H locs → j92_15 t_14 = some res → W p l e (rmK 2 45) s m ([.ref a_this, .int x1, .int x2] : List Value).toArray below meth c H locs 0 0 (MQ below (QG D (tyL cB cI cZ) A (fun _ : (Nat → Int32) × (Nat → Int32) => none) (fun res : (Nat → Int32) × (Nat → Int32) => (wX10_readInner cB cI cZ av a_this v_thrown v_size v_begins v_entries v_length v_pressed v_streamFrames v_zeros v_level v_sum v_tail v_isPlayed v_found v_strange v_innerFails v_outerFails v_mostMarks v_unsure v_may v_mocks v_sumThen v_bits v_bytesOf v_foundAt (res.1) (res.2))) res) ([.ref a_this, .int x1, .int x2] : List Value).toArray s 0 0 A) (F0 m 92 ls [.int t_14, .int x4_3, .ref (av 29)]) := by
        intro t_14 ls H locs hl hw h
        have h := k1_at ej92_15 h
        obtain ⟨hi_16, h⟩ := og_at h
        obtain ⟨v_innerMarks_17, ev_innerMarks_17⟩ : ∃ y : Nat → Int32, y = upd v_innerMarks_7 (Int32.toNatClampNeg x4_3) (vp_nar .boolean t_14) := ⟨_, rfl⟩
        have h := nm_at ev_innerMarks_17 h
        refine x_zast (pc := 92) (wX10_readInner cB cI cZ av a_this v_thrown v_size v_begins v_entries v_length v_pressed v_streamFrames v_zeros v_level v_sum v_tail v_isPlayed v_found v_strange v_innerFails v_outerFails v_mostMarks v_unsure v_may v_mocks v_sumThen v_bits v_bytesOf v_foundAt v_innerMarks_17 v_inners_5) C hw 4 rfl hi_16 (by rw [ev_innerMarks_17]; rfl) dX10_readInner_92 (fun H locs hw => ?_)
        refine lv_iload (pc := 93) hx hb dX10_readInner_93 (lv_at hl 0 rfl) ?_
        obtain ⟨j104_19, ej104_19, h⟩ := jk_at h
        have J104_19 : ∀ (t_18 : Int32) (ls : Array Slot) (H : Heap) (locs : List Loc), lv_has ls 6 [(4, .int x4_3), (0, .ref a_this), (2, .int x2)] → Wd D A s (wX10_readInner cB cI cZ av a_this v_thrown v_size v_begins v_entries v_length v_pressed v_streamFrames v_zeros v_level v_sum v_tail v_isPlayed v_found v_strange v_innerFails v_outerFails v_mostMarks v_unsure v_may v_mocks v_sumThen v_bits v_bytesOf v_foundAt v_innerMarks_17 v_inners_5) H locs → j104_19 t_18 = some res → W p l e (rmK 2 45) s m ([.ref a_this, .int x1, .int x2] : List Value).toArray below meth c H locs 0 0 (MQ below (QG D (tyL cB cI cZ) A (fun _ : (Nat → Int32) × (Nat → Int32) => none) (fun res : (Nat → Int32) × (Nat → Int32) => (wX10_readInner cB cI cZ av a_this v_thrown v_size v_begins v_entries v_length v_pressed v_streamFrames v_zeros v_level v_sum v_tail v_isPlayed v_found v_strange v_innerFails v_outerFails v_mostMarks v_unsure v_may v_mocks v_sumThen v_bits v_bytesOf v_foundAt (res.1) (res.2))) res) ([.ref a_this, .int x1, .int x2] : List Value).toArray s 0 0 A) (F0 m 104 ls [.int t_18]) := by
          intro t_18 ls H locs hl hw h
          have h := k1_at ej104_19 h
          refine lv_istore (pc := 104) (lv' := [(5, .int t_18), (4, .int x4_3), (0, .ref a_this), (2, .int x2)]) hx hb dX10_readInner_104 hl (by decide) rfl (fun ls hl => ?_)
          refine lv_aload_n (pc := 106) hx hb dX10_readInner_106 rfl (lv_at hl 2 rfl) ?_
          refine gf_X10_64 (pc := 107) C hw 0 rfl rfl dX10_readInner_107 ?_
          refine lv_iload (pc := 110) hx hb dX10_readInner_110 (lv_at hl 1 rfl) ?_
          refine lv_iload_n (pc := 112) hx hb dX10_readInner_112 rfl (lv_at hl 3 rfl) ?_
          obtain ⟨r_20, hq_21, h⟩ := nt1_at h
          refine x_callS (pc := 113) (rest := [.int x4_3, .ref (av 28)]) (stk := [.int r_20, .int x4_3, .ref (av 28)]) (wX10_readInner cB cI cZ av a_this v_thrown v_size v_begins v_entries v_length v_pressed v_streamFrames v_zeros v_level v_sum v_tail v_isPlayed v_found v_strange v_innerFails v_outerFails v_mostMarks v_unsure v_may v_mocks v_sumThen v_bits v_bytesOf v_foundAt v_innerMarks_17 v_inners_5) C hw (ct_X10_isTurned l D cB cI cZ tw av x2 r_20 hq_21.symm) cal_X10_isTurned tw_1330 [] [0, 1, 2, 3, 4, 5] 6 [oX10 a_this av v_thrown v_size v_begins v_entries v_length v_pressed v_streamFrames v_zeros v_level v_sum v_tail v_isPlayed v_found v_strange v_innerFails v_outerFails v_mostMarks v_unsure v_may v_mocks v_sumThen, ((av 13), .inl (cB, 360000, .inl v_bits)), ((av 2), .inl (cI, 16384, .inl v_bytesOf)), ((av 36), .inl (cI, 640, .inl v_foundAt)), ((av 29), .inl (cZ, 20480, .inl v_innerMarks_17)), ((av 28), .inl (cI, 20480, .inl v_inners_5))] rfl rfl rfl rfl rfl rfl rfl rfl rfl rfl rfl (Nat.le_of_ble_eq_true rfl) hl.1 ⟨Nat.le_of_ble_eq_true rfl, Nat.le_of_ble_eq_true rfl⟩ ⟨Nat.zero_le _, Nat.zero_le _⟩ dX10_readInner_113 (fun H locs hw => ?_)
          obtain ⟨j130_23, ej130_23, h⟩ := jk_at h
          have J130_23 : ∀ (t_22 : Int32) (ls : Array Slot) (H : Heap) (locs : List Loc), lv_has ls 6 [] → Wd D A s (wX10_readInner cB cI cZ av a_this v_thrown v_size v_begins v_entries v_length v_pressed v_streamFrames v_zeros v_level v_sum v_tail v_isPlayed v_found v_strange v_innerFails v_outerFails v_mostMarks v_unsure v_may v_mocks v_sumThen v_bits v_bytesOf v_foundAt v_innerMarks_17 v_inners_5) H locs → j130_23 t_22 = some res → W p l e (rmK 2 45) s m ([.ref a_this, .int x1, .int x2] : List Value).toArray below meth c H locs 0 0 (MQ below (QG D (tyL cB cI cZ) A (fun _ : (Nat → Int32) × (Nat → Int32) => none) (fun res : (Nat → Int32) × (Nat → Int32) => (wX10_readInner cB cI cZ av a_this v_thrown v_size v_begins v_entries v_length v_pressed v_streamFrames v_zeros v_level v_sum v_tail v_isPlayed v_found v_strange v_innerFails v_outerFails v_mostMarks v_unsure v_may v_mocks v_sumThen v_bits v_bytesOf v_foundAt (res.1) (res.2))) res) ([.ref a_this, .int x1, .int x2] : List Value).toArray s 0 0 A) (F0 m 130 ls [.int t_22, .int x4_3, .ref (av 28)]) := by
            intro t_22 ls H locs hl hw h
            have h := k1_at ej130_23 h
            obtain ⟨hi_24, h⟩ := og_at h
            obtain ⟨v_inners_25, ev_inners_25⟩ : ∃ y : Nat → Int32, y = upd v_inners_5 (Int32.toNatClampNeg x4_3) t_22 := ⟨_, rfl⟩
            have h := nm_at ev_inners_25 h
            refine x_iast (pc := 130) (wX10_readInner cB cI cZ av a_this v_thrown v_size v_begins v_entries v_length v_pressed v_streamFrames v_zeros v_level v_sum v_tail v_isPlayed v_found v_strange v_innerFails v_outerFails v_mostMarks v_unsure v_may v_mocks v_sumThen v_bits v_bytesOf v_foundAt v_innerMarks_17 v_inners_25) C hw 5 rfl hi_24 (by rw [ev_inners_25]; rfl) dX10_readInner_130 (fun H locs hw => ?_)
            exact x_vret (pc := 131) (v := (v_innerMarks_17, v_inners_25)) C (Option.some.inj h) rfl hw dX10_readInner_131
          refine lv_if_eq (pc := 116) (tgt := 128) hx hb dX10_readInner_116 (by decide) (fun hc_26 => ?_) (fun hc_26 => ?_)
          · have h := ift hc_26 h
            refine lv_iload (pc := 128) hx hb dX10_readInner_128 (lv_at hl 0 rfl) ?_
            exact J130_23 t_18 ls _ _ (lv_sub hl [] rfl) hw h
          · have h := iff' hc_26 h
            refine lv_sipush (pc := 119) (v := 255) hx hb dX10_readInner_119 (by decide) ?_
            refine lv_iload (pc := 122) hx hb dX10_readInner_122 (lv_at hl 0 rfl) ?_
            refine lv_isub (pc := 124) hx hb dX10_readInner_124 ?_
            refine lv_goto (pc := 125) (tgt := 130) hx hb dX10_readInner_125 (by decide) ?_
            exact J130_23 ((255 : Int32) - t_18) ls _ _ (lv_sub hl [] rfl) hw h
        refine lv_if_ge (pc := 95) (tgt := 102) hx hb dX10_readInner_95 (by decide) (fun hc_27 => ?_) (fun hc_27 => ?_)
        · have h := ift hc_27 h
          refine lv_iload (pc := 102) hx hb dX10_readInner_102 (lv_at hl 0 rfl) ?_
          exact J104_19 x5_13 ls _ _ (lv_sub hl [1, 2, 3] rfl) hw h
        · have h := iff' hc_27 h
          refine lv_iconst (pc := 98) (v := 0) hx hb dX10_readInner_98 (by decide) ?_
          refine lv_goto (pc := 99) (tgt := 104) hx hb dX10_readInner_99 (by decide) ?_
          exact J104_19 0 ls _ _ (lv_sub hl [1, 2, 3] rfl) hw h
      refine lv_if_ge (pc := 84) (tgt := 91) hx hb dX10_readInner_84 (by decide) (fun hc_28 => ?_) (fun hc_28 => ?_)
      · have h := ift hc_28 h
        refine lv_iconst (pc := 91) (v := 0) hx hb dX10_readInner_91 (by decide) ?_
        exact J92_15 0 ls _ _ (lv_sub hl [0, 1, 3, 5] rfl) hw h
      · have h := iff' hc_28 h
        refine lv_iconst (pc := 87) (v := 1) hx hb dX10_readInner_87 (by decide) ?_
        refine lv_goto (pc := 88) (tgt := 92) hx hb dX10_readInner_88 (by decide) ?_
        exact J92_15 1 ls _ _ (lv_sub hl [0, 1, 3, 5] rfl) hw h
    · have h := iff' hc_8 h
      exact x_vret (pc := 46) (v := (v_innerMarks_7, v_inners_5)) C (Option.some.inj h) rfl hw dX10_readInner_46
  refine lv_if_ne (pc := 3) (tgt := 12) hx hb dX10_readInner_3 (by decide) (fun hc_29 => ?_) (fun hc_29 => ?_)
  · have h := iff' hc_29 h
    refine lv_iload_n (pc := 12) hx hb dX10_readInner_12 rfl (lv_at hl 1 rfl) ?_
    exact J13_2 x1 ls _ _ (lv_sub hl [0, 1, 2] rfl) hw h
  · have h := ift hc_29 h
    refine lv_iload_n (pc := 6) hx hb dX10_readInner_6 rfl (lv_at hl 1 rfl) ?_
    refine lv_iconst (pc := 7) (v := 1) hx hb dX10_readInner_7 (by decide) ?_
    refine lv_iadd (pc := 8) hx hb dX10_readInner_8 ?_
    refine lv_goto (pc := 9) (tgt := 13) hx hb dX10_readInner_9 (by decide) ?_
    exact J13_2 (x1 + (1 : Int32)) ls _ _ (lv_sub hl [0, 1, 2] rfl) hw h
def wX10_playInner (cB cI cZ : ClassId) (av : Nat → Nat) (a_this : Nat) (v_thrown : Int32) (v_size : Int32) (v_begins : Int32) (v_entries : Int32) (v_length : Int32) (v_pressed : Int32) (v_streamFrames : Int32) (v_zeros : Int32) (v_level : Int32) (v_sum : Int32) (v_tail : Int32) (v_isPlayed : Int32) (v_found : Int32) (v_strange : Int32) (v_innerFails : Int32) (v_outerFails : Int32) (v_mostMarks : Int32) (v_unsure : Int32) (v_may : Int32) (v_mocks : Int32) (v_sumThen : Int32) (v_bits : Nat → Int32) (v_bytesOf : Nat → Int32) (v_foundAt : Nat → Int32) (v_innerMarks : Nat → Int32) (v_innerTold : Nat → Int32) (v_inners : Nat → Int32) (v_logs : Nat → Int32) (v_marked : Nat → Int32) (v_places : Nat → Int32) (v_powers : Nat → Int32) (v_rows : Nat → Int32) (v_syndromes : Nat → Int32) (v_values : Nat → Int32) (v_word : Nat → Int32) : va_W := [oX10 a_this av v_thrown v_size v_begins v_entries v_length v_pressed v_streamFrames v_zeros v_level v_sum v_tail v_isPlayed v_found v_strange v_innerFails v_outerFails v_mostMarks v_unsure v_may v_mocks v_sumThen, ((av 13), .inl (cB, 360000, .inl v_bits)), ((av 2), .inl (cI, 16384, .inl v_bytesOf)), ((av 36), .inl (cI, 640, .inl v_foundAt)), ((av 29), .inl (cZ, 20480, .inl v_innerMarks)), ((av 30), .inl (cI, 640, .inl v_innerTold)), ((av 28), .inl (cI, 20480, .inl v_inners)), ((av 4), .inl (cI, 256, .inl v_logs)), ((av 23), .inl (cZ, 32, .inl v_marked)), ((av 25), .inl (cI, 4, .inl v_places)), ((av 3), .inl (cI, 512, .inl v_powers)), ((av 27), .inl (cI, 20, .inl v_rows)), ((av 24), .inl (cI, 4, .inl v_syndromes)), ((av 26), .inl (cI, 4, .inl v_values)), ((av 22), .inl (cI, 32, .inl v_word))]
def fX10_playInner_L103 (v_innerFails_20 : Int32) (v_innerTold_14 : Nat → Int32) (v_marked_3 : Nat → Int32) (v_places_7 : Nat → Int32) (v_rows_8 : Nat → Int32) (v_syndromes_9 : Nat → Int32) (v_values_10 : Nat → Int32) (v_word_11 : Nat → Int32) (x1 : Int32) (t_16 : Int32) : Nat → Int32 → (Nat → Int32) → (Nat → Int32) → Option (Int32 × (Nat → Int32) × (Nat → Int32) × (Nat → Int32) × (Nat → Int32) × (Nat → Int32) × (Nat → Int32) × (Nat → Int32) × (Nat → Int32) × (Nat → Int32))
  | 0, _, _, _ => none
  | F103_24 + 1, x4_21, v_innerMarks_22, v_inners_23 => if (32 : Int32) ≤ x4_21 then some (v_innerFails_20, v_innerMarks_22, v_innerTold_14, v_inners_23, v_marked_3, v_places_7, v_rows_8, v_syndromes_9, v_values_10, v_word_11) else og (ixb x4_21 32) (og (ixb (((32 : Int32) * x1) + x4_21) 20480) (nm (upd v_inners_23 (Int32.toNatClampNeg (((32 : Int32) * x1) + x4_21)) (v_word_11 (Int32.toNatClampNeg x4_21))) fun v_inners_28 => og (ixb (((32 : Int32) * x1) + x4_21) 20480) (nm (upd v_innerMarks_22 (Int32.toNatClampNeg (((32 : Int32) * x1) + x4_21)) (vp_nar .boolean t_16)) fun v_innerMarks_30 => nm (x4_21 + 1 : Int32) fun x4_31 => fX10_playInner_L103 v_innerFails_20 v_innerTold_14 v_marked_3 v_places_7 v_rows_8 v_syndromes_9 v_values_10 v_word_11 x1 t_16 F103_24 x4_31 v_innerMarks_30 v_inners_28)))
def fX10_playInner_L2 (j54_5 : (Nat → Int32) → (Nat → Int32) → (Nat → Int32) → (Nat → Int32) → Option (Int32 × (Nat → Int32) × (Nat → Int32) × (Nat → Int32) × (Nat → Int32) × (Nat → Int32) × (Nat → Int32) × (Nat → Int32) × (Nat → Int32) × (Nat → Int32))) (v_found : Int32) (v_length : Int32) (v_bits : Nat → Int32) (v_bytesOf : Nat → Int32) (v_foundAt : Nat → Int32) (x1 : Int32) : Nat → Int32 → (Nat → Int32) → (Nat → Int32) → (Nat → Int32) → (Nat → Int32) → Option (Int32 × (Nat → Int32) × (Nat → Int32) × (Nat → Int32) × (Nat → Int32) × (Nat → Int32) × (Nat → Int32) × (Nat → Int32) × (Nat → Int32) × (Nat → Int32))
  | 0, _, _, _, _, _ => none
  | F2_39 + 1, x3_34, v_innerMarks_35, v_inners_36, v_marked_37, v_word_38 => if (32 : Int32) ≤ x3_34 then j54_5 v_innerMarks_35 v_inners_36 v_marked_37 v_word_38 else ob2 (fX10_readInner v_found v_length v_bits v_bytesOf v_foundAt v_innerMarks_35 v_inners_36 x1 x3_34) fun v_innerMarks_41 v_inners_42 => og (ixb (((32 : Int32) * x1) + x3_34) 20480) (og (ixb x3_34 32) (nm (upd v_word_38 (Int32.toNatClampNeg x3_34) (v_inners_42 (Int32.toNatClampNeg (((32 : Int32) * x1) + x3_34)))) fun v_word_46 => og (ixb (((32 : Int32) * x1) + x3_34) 20480) (og (ixb x3_34 32) (nm (upd v_marked_37 (Int32.toNatClampNeg x3_34) (vp_nar .boolean (v_innerMarks_41 (Int32.toNatClampNeg (((32 : Int32) * x1) + x3_34))))) fun v_marked_49 => nm (x3_34 + 1 : Int32) fun x3_50 => fX10_playInner_L2 j54_5 v_found v_length v_bits v_bytesOf v_foundAt x1 F2_39 x3_50 v_innerMarks_41 v_inners_42 v_marked_49 v_word_46))))
def fX10_playInner (v_found : Int32) (v_innerFails : Int32) (v_length : Int32) (v_bits : Nat → Int32) (v_bytesOf : Nat → Int32) (v_foundAt : Nat → Int32) (v_innerMarks : Nat → Int32) (v_innerTold : Nat → Int32) (v_inners : Nat → Int32) (v_logs : Nat → Int32) (v_marked : Nat → Int32) (v_places : Nat → Int32) (v_powers : Nat → Int32) (v_rows : Nat → Int32) (v_syndromes : Nat → Int32) (v_values : Nat → Int32) (v_word : Nat → Int32) (x1 : Int32) (x2 : Int32) : Option (Int32 × (Nat → Int32) × (Nat → Int32) × (Nat → Int32) × (Nat → Int32) × (Nat → Int32) × (Nat → Int32) × (Nat → Int32) × (Nat → Int32) × (Nat → Int32)) := jk (fun (v_innerMarks_1 : Nat → Int32) (v_inners_2 : Nat → Int32) (v_marked_3 : Nat → Int32) (v_word_4 : Nat → Int32) => ob6 (fX10_mended v_logs v_marked_3 v_places v_powers v_rows v_syndromes v_values v_word_4 32 x2) fun r_6 v_places_7 v_rows_8 v_syndromes_9 v_values_10 v_word_11 => og (ixb x1 640) (nm (upd v_innerTold (Int32.toNatClampNeg x1) r_6) fun v_innerTold_14 => og (ixb x1 640) (jk (fun (t_16 : Int32) => jk (fun (t_18 : Int32) => nm ((v_innerFails + t_18) : Int32) fun v_innerFails_20 => fX10_playInner_L103 v_innerFails_20 v_innerTold_14 v_marked_3 v_places_7 v_rows_8 v_syndromes_9 v_values_10 v_word_11 x1 t_16 FU 0 v_innerMarks_1 v_inners_2) fun j96_19 => if t_16 = 0 then j96_19 0 else j96_19 1) fun j81_17 => if 0 ≤ (v_innerTold_14 (Int32.toNatClampNeg x1)) then j81_17 0 else j81_17 1))) fun j54_5 => fX10_playInner_L2 j54_5 v_found v_length v_bits v_bytesOf v_foundAt x1 FU 0 v_innerMarks v_inners v_marked v_word
set_option maxHeartbeats 4000000 in
set_option maxRecDepth 100000 in
theorem ct_X10_playInner (l : Launch) (D : va_G) (cB cI cZ : ClassId) (tw : Nat) (av : Nat → Nat) (a_this : Nat) (v_thrown : Int32) (v_size : Int32) (v_begins : Int32) (v_entries : Int32) (v_length : Int32) (v_pressed : Int32) (v_streamFrames : Int32) (v_zeros : Int32) (v_level : Int32) (v_sum : Int32) (v_tail : Int32) (v_isPlayed : Int32) (v_found : Int32) (v_strange : Int32) (v_innerFails : Int32) (v_outerFails : Int32) (v_mostMarks : Int32) (v_unsure : Int32) (v_may : Int32) (v_mocks : Int32) (v_sumThen : Int32) (v_bits : Nat → Int32) (v_bytesOf : Nat → Int32) (v_foundAt : Nat → Int32) (v_innerMarks : Nat → Int32) (v_innerTold : Nat → Int32) (v_inners : Nat → Int32) (v_logs : Nat → Int32) (v_marked : Nat → Int32) (v_places : Nat → Int32) (v_powers : Nat → Int32) (v_rows : Nat → Int32) (v_syndromes : Nat → Int32) (v_values : Nat → Int32) (v_word : Nat → Int32) (x1 : Int32) (x2 : Int32) (res : Int32 × (Nat → Int32) × (Nat → Int32) × (Nat → Int32) × (Nat → Int32) × (Nat → Int32) × (Nat → Int32) × (Nat → Int32) × (Nat → Int32) × (Nat → Int32)) (h : fX10_playInner v_found v_innerFails v_length v_bits v_bytesOf v_foundAt v_innerMarks v_innerTold v_inners v_logs v_marked v_places v_powers v_rows v_syndromes v_values v_word x1 x2 = some res) : Ctr l yX10_playInner cX10_playInner 5 none (rmK 3 79) D (tyL cB cI cZ) tw [.ref a_this, .int x1, .int x2] (wX10_playInner cB cI cZ av a_this v_thrown v_size v_begins v_entries v_length v_pressed v_streamFrames v_zeros v_level v_sum v_tail v_isPlayed v_found v_strange v_innerFails v_outerFails v_mostMarks v_unsure v_may v_mocks v_sumThen v_bits v_bytesOf v_foundAt v_innerMarks v_innerTold v_inners v_logs v_marked v_places v_powers v_rows v_syndromes v_values v_word) (fun _ : Int32 × (Nat → Int32) × (Nat → Int32) × (Nat → Int32) × (Nat → Int32) × (Nat → Int32) × (Nat → Int32) × (Nat → Int32) × (Nat → Int32) × (Nat → Int32) => none) (fun res : Int32 × (Nat → Int32) × (Nat → Int32) × (Nat → Int32) × (Nat → Int32) × (Nat → Int32) × (Nat → Int32) × (Nat → Int32) × (Nat → Int32) × (Nat → Int32) => (wX10_playInner cB cI cZ av a_this v_thrown v_size v_begins v_entries v_length v_pressed v_streamFrames v_zeros v_level v_sum v_tail v_isPlayed v_found v_strange (res.1) v_outerFails v_mostMarks v_unsure v_may v_mocks v_sumThen v_bits v_bytesOf v_foundAt (res.2.1) (res.2.2.1) (res.2.2.2.1) v_logs (res.2.2.2.2.1) (res.2.2.2.2.2.1) v_powers (res.2.2.2.2.2.2.1) (res.2.2.2.2.2.2.2.1) (res.2.2.2.2.2.2.2.2.1) (res.2.2.2.2.2.2.2.2.2))) res := by
  refine ctr_of RX10 (by decide) rfl (Nat.le_of_ble_eq_true rfl) ?_
  intro p e s m below meth c A C hw ls hl
  have hx := C.1
  have hb := C.2.1
  have hl : lv_has ls 5 [(0, .ref a_this), (1, .int x1), (2, .int x2)] := hl
  unfold fX10_playInner at h
  refine lv_iconst (pc := 0) (v := 0) hx hb dX10_playInner_0 (by decide) ?_
  refine lv_istore_n (pc := 1) (lv' := [(3, .int 0), (0, .ref a_this), (1, .int x1), (2, .int x2)]) hx hb dX10_playInner_1 rfl hl (by decide) rfl (fun ls hl => ?_)
  obtain ⟨j54_5, ej54_5, h⟩ := jk_at h
  have J54_5 : ∀ (v_innerMarks_1 : Nat → Int32) (v_inners_2 : Nat → Int32) (v_marked_3 : Nat → Int32) (v_word_4 : Nat → Int32) (ls : Array Slot) (H : Heap) (locs : List Loc), lv_has ls 5 [(0, .ref a_this), (1, .int x1), (2, .int x2)] → Wd D A s (wX10_playInner cB cI cZ av a_this v_thrown v_size v_begins v_entries v_length v_pressed v_streamFrames v_zeros v_level v_sum v_tail v_isPlayed v_found v_strange v_innerFails v_outerFails v_mostMarks v_unsure v_may v_mocks v_sumThen v_bits v_bytesOf v_foundAt v_innerMarks_1 v_innerTold v_inners_2 v_logs v_marked_3 v_places v_powers v_rows v_syndromes v_values v_word_4) H locs → j54_5 v_innerMarks_1 v_inners_2 v_marked_3 v_word_4 = some res → W p l e (rmK 3 79) s m ([.ref a_this, .int x1, .int x2] : List Value).toArray below meth c H locs 0 0 (MQ below (QG D (tyL cB cI cZ) A (fun _ : Int32 × (Nat → Int32) × (Nat → Int32) × (Nat → Int32) × (Nat → Int32) × (Nat → Int32) × (Nat → Int32) × (Nat → Int32) × (Nat → Int32) × (Nat → Int32) => none) (fun res : Int32 × (Nat → Int32) × (Nat → Int32) × (Nat → Int32) × (Nat → Int32) × (Nat → Int32) × (Nat → Int32) × (Nat → Int32) × (Nat → Int32) × (Nat → Int32) => (wX10_playInner cB cI cZ av a_this v_thrown v_size v_begins v_entries v_length v_pressed v_streamFrames v_zeros v_level v_sum v_tail v_isPlayed v_found v_strange (res.1) v_outerFails v_mostMarks v_unsure v_may v_mocks v_sumThen v_bits v_bytesOf v_foundAt (res.2.1) (res.2.2.1) (res.2.2.2.1) v_logs (res.2.2.2.2.1) (res.2.2.2.2.2.1) v_powers (res.2.2.2.2.2.2.1) (res.2.2.2.2.2.2.2.1) (res.2.2.2.2.2.2.2.2.1) (res.2.2.2.2.2.2.2.2.2))) res) ([.ref a_this, .int x1, .int x2] : List Value).toArray s 0 0 A) (F0 m 54 ls []) := by
    intro v_innerMarks_1 v_inners_2 v_marked_3 v_word_4 ls H locs hl hw h
    have h := k4_at ej54_5 h
    refine lv_aload_n (pc := 54) hx hb dX10_playInner_54 rfl (lv_at hl 0 rfl) ?_
    refine gf_X10_70 (pc := 55) C hw 0 rfl rfl dX10_playInner_55 ?_
    refine lv_iload_n (pc := 58) hx hb dX10_playInner_58 rfl (lv_at hl 1 rfl) ?_
    refine lv_aload_n (pc := 59) hx hb dX10_playInner_59 rfl (lv_at hl 0 rfl) ?_
    refine lv_bipush (pc := 60) (v := 32) hx hb dX10_playInner_60 (by decide) ?_
    refine lv_iload_n (pc := 62) hx hb dX10_playInner_62 rfl (lv_at hl 2 rfl) ?_
    obtain ⟨r_6, v_places_7, v_rows_8, v_syndromes_9, v_values_10, v_word_11, hq_12, h⟩ := ob6_at h
    refine x_callV (pc := 63) (rest := [.int x1, .ref (av 30)]) (stk := [.int r_6, .int x1, .ref (av 30)]) (wX10_playInner cB cI cZ av a_this v_thrown v_size v_begins v_entries v_length v_pressed v_streamFrames v_zeros v_level v_sum v_tail v_isPlayed v_found v_strange v_innerFails v_outerFails v_mostMarks v_unsure v_may v_mocks v_sumThen v_bits v_bytesOf v_foundAt v_innerMarks_1 v_innerTold v_inners_2 v_logs v_marked_3 v_places_7 v_powers v_rows_8 v_syndromes_9 v_values_10 v_word_11) C hw (ct_X10_mended l D cB cI cZ tw av a_this v_thrown v_size v_begins v_entries v_length v_pressed v_streamFrames v_zeros v_level v_sum v_tail v_isPlayed v_found v_strange v_innerFails v_outerFails v_mostMarks v_unsure v_may v_mocks v_sumThen v_logs v_marked_3 v_places v_powers v_rows v_syndromes v_values v_word_4 32 x2 (r_6, v_places_7, v_rows_8, v_syndromes_9, v_values_10, v_word_11) hq_12) cal_X10_mended tw_1232 (q0 := 0) rfl rfl [0, 7, 8, 9, 10, 11, 12, 13, 14] [1, 2, 3, 4, 5, 6] 15 [((av 13), .inl (cB, 360000, .inl v_bits)), ((av 2), .inl (cI, 16384, .inl v_bytesOf)), ((av 36), .inl (cI, 640, .inl v_foundAt)), ((av 29), .inl (cZ, 20480, .inl v_innerMarks_1)), ((av 30), .inl (cI, 640, .inl v_innerTold)), ((av 28), .inl (cI, 20480, .inl v_inners_2))] rfl rfl rfl rfl rfl rfl rfl rfl rfl rfl rfl (Nat.le_of_ble_eq_true rfl) hl.1 ⟨Nat.le_of_ble_eq_true rfl, Nat.le_of_ble_eq_true rfl⟩ ⟨Nat.zero_le _, Nat.zero_le _⟩ dX10_playInner_63 (fun H locs hw => ?_)
    obtain ⟨hi_13, h⟩ := og_at h
    obtain ⟨v_innerTold_14, ev_innerTold_14⟩ : ∃ y : Nat → Int32, y = upd v_innerTold (Int32.toNatClampNeg x1) r_6 := ⟨_, rfl⟩
    have h := nm_at ev_innerTold_14 h
    refine x_iast (pc := 66) (wX10_playInner cB cI cZ av a_this v_thrown v_size v_begins v_entries v_length v_pressed v_streamFrames v_zeros v_level v_sum v_tail v_isPlayed v_found v_strange v_innerFails v_outerFails v_mostMarks v_unsure v_may v_mocks v_sumThen v_bits v_bytesOf v_foundAt v_innerMarks_1 v_innerTold_14 v_inners_2 v_logs v_marked_3 v_places_7 v_powers v_rows_8 v_syndromes_9 v_values_10 v_word_11) C hw 5 rfl hi_13 (by rw [ev_innerTold_14]; rfl) dX10_playInner_66 (fun H locs hw => ?_)
    refine lv_aload_n (pc := 67) hx hb dX10_playInner_67 rfl (lv_at hl 0 rfl) ?_
    refine gf_X10_70 (pc := 68) C hw 0 rfl rfl dX10_playInner_68 ?_
    refine lv_iload_n (pc := 71) hx hb dX10_playInner_71 rfl (lv_at hl 1 rfl) ?_
    obtain ⟨hi_15, h⟩ := og_at h
    refine x_iald (pc := 72) C hw 5 rfl hi_15 dX10_playInner_72 ?_
    obtain ⟨j81_17, ej81_17, h⟩ := jk_at h
    have J81_17 : ∀ (t_16 : Int32) (ls : Array Slot) (H : Heap) (locs : List Loc), lv_has ls 5 [(0, .ref a_this), (1, .int x1)] → Wd D A s (wX10_playInner cB cI cZ av a_this v_thrown v_size v_begins v_entries v_length v_pressed v_streamFrames v_zeros v_level v_sum v_tail v_isPlayed v_found v_strange v_innerFails v_outerFails v_mostMarks v_unsure v_may v_mocks v_sumThen v_bits v_bytesOf v_foundAt v_innerMarks_1 v_innerTold_14 v_inners_2 v_logs v_marked_3 v_places_7 v_powers v_rows_8 v_syndromes_9 v_values_10 v_word_11) H locs → j81_17 t_16 = some res → W p l e (rmK 3 79) s m ([.ref a_this, .int x1, .int x2] : List Value).toArray below meth c H locs 0 0 (MQ below (QG D (tyL cB cI cZ) A (fun _ : Int32 × (Nat → Int32) × (Nat → Int32) × (Nat → Int32) × (Nat → Int32) × (Nat → Int32) × (Nat → Int32) × (Nat → Int32) × (Nat → Int32) × (Nat → Int32) => none) (fun res : Int32 × (Nat → Int32) × (Nat → Int32) × (Nat → Int32) × (Nat → Int32) × (Nat → Int32) × (Nat → Int32) × (Nat → Int32) × (Nat → Int32) × (Nat → Int32) => (wX10_playInner cB cI cZ av a_this v_thrown v_size v_begins v_entries v_length v_pressed v_streamFrames v_zeros v_level v_sum v_tail v_isPlayed v_found v_strange (res.1) v_outerFails v_mostMarks v_unsure v_may v_mocks v_sumThen v_bits v_bytesOf v_foundAt (res.2.1) (res.2.2.1) (res.2.2.2.1) v_logs (res.2.2.2.2.1) (res.2.2.2.2.2.1) v_powers (res.2.2.2.2.2.2.1) (res.2.2.2.2.2.2.2.1) (res.2.2.2.2.2.2.2.2.1) (res.2.2.2.2.2.2.2.2.2))) res) ([.ref a_this, .int x1, .int x2] : List Value).toArray s 0 0 A) (F0 m 81 ls [.int t_16]) := by
      intro t_16 ls H locs hl hw h
      have h := k1_at ej81_17 h
      refine lv_istore_n (pc := 81) (lv' := [(3, .int t_16), (0, .ref a_this), (1, .int x1)]) hx hb dX10_playInner_81 rfl hl (by decide) rfl (fun ls hl => ?_)
      refine lv_aload_n (pc := 82) hx hb dX10_playInner_82 rfl (lv_at hl 1 rfl) ?_
      refine lv_dup (pc := 83) hx hb dX10_playInner_83 rfl ?_
      refine gf_X10_305 (pc := 84) C hw 0 rfl rfl dX10_playInner_84 ?_
      refine lv_iload_n (pc := 87) hx hb dX10_playInner_87 rfl (lv_at hl 0 rfl) ?_
      obtain ⟨j96_19, ej96_19, h⟩ := jk_at h
      have J96_19 : ∀ (t_18 : Int32) (ls : Array Slot) (H : Heap) (locs : List Loc), lv_has ls 5 [(3, .int t_16), (0, .ref a_this), (1, .int x1)] → Wd D A s (wX10_playInner cB cI cZ av a_this v_thrown v_size v_begins v_entries v_length v_pressed v_streamFrames v_zeros v_level v_sum v_tail v_isPlayed v_found v_strange v_innerFails v_outerFails v_mostMarks v_unsure v_may v_mocks v_sumThen v_bits v_bytesOf v_foundAt v_innerMarks_1 v_innerTold_14 v_inners_2 v_logs v_marked_3 v_places_7 v_powers v_rows_8 v_syndromes_9 v_values_10 v_word_11) H locs → j96_19 t_18 = some res → W p l e (rmK 3 79) s m ([.ref a_this, .int x1, .int x2] : List Value).toArray below meth c H locs 0 0 (MQ below (QG D (tyL cB cI cZ) A (fun _ : Int32 × (Nat → Int32) × (Nat → Int32) × (Nat → Int32) × (Nat → Int32) × (Nat → Int32) × (Nat → Int32) × (Nat → Int32) × (Nat → Int32) × (Nat → Int32) => none) (fun res : Int32 × (Nat → Int32) × (Nat → Int32) × (Nat → Int32) × (Nat → Int32) × (Nat → Int32) × (Nat → Int32) × (Nat → Int32) × (Nat → Int32) × (Nat → Int32) => (wX10_playInner cB cI cZ av a_this v_thrown v_size v_begins v_entries v_length v_pressed v_streamFrames v_zeros v_level v_sum v_tail v_isPlayed v_found v_strange (res.1) v_outerFails v_mostMarks v_unsure v_may v_mocks v_sumThen v_bits v_bytesOf v_foundAt (res.2.1) (res.2.2.1) (res.2.2.2.1) v_logs (res.2.2.2.2.1) (res.2.2.2.2.2.1) v_powers (res.2.2.2.2.2.2.1) (res.2.2.2.2.2.2.2.1) (res.2.2.2.2.2.2.2.2.1) (res.2.2.2.2.2.2.2.2.2))) res) ([.ref a_this, .int x1, .int x2] : List Value).toArray s 0 0 A) (F0 m 96 ls [.int t_18, .int v_innerFails, .ref a_this]) := by
        intro t_18 ls H locs hl hw h
        have h := k1_at ej96_19 h
        refine lv_iadd (pc := 96) hx hb dX10_playInner_96 ?_
        refine lv_topi (pc := 97) (fun v_innerFails_20 ev_innerFails_20 => ?_)
        have h := nm_at ev_innerFails_20 h
        refine pf_X10_305 (pc := 97) (wX10_playInner cB cI cZ av a_this v_thrown v_size v_begins v_entries v_length v_pressed v_streamFrames v_zeros v_level v_sum v_tail v_isPlayed v_found v_strange v_innerFails_20 v_outerFails v_mostMarks v_unsure v_may v_mocks v_sumThen v_bits v_bytesOf v_foundAt v_innerMarks_1 v_innerTold_14 v_inners_2 v_logs v_marked_3 v_places_7 v_powers v_rows_8 v_syndromes_9 v_values_10 v_word_11) C hw 0 rfl rfl rfl rfl (Nat.le_of_ble_eq_true rfl) dX10_playInner_97 (fun H locs hw => ?_)
        refine lv_iconst (pc := 100) (v := 0) hx hb dX10_playInner_100 (by decide) ?_
        refine lv_istore (pc := 101) (lv' := [(4, .int 0), (3, .int t_16), (0, .ref a_this), (1, .int x1)]) hx hb dX10_playInner_101 hl (by decide) rfl (fun ls hl => ?_)
        have Lih103_24 : ∀ (F : Nat) (x4_21 : Int32) (v_innerMarks_22 : Nat → Int32) (v_inners_23 : Nat → Int32) (ls : Array Slot) (H : Heap) (locs : List Loc), lv_has ls 5 [(4, .int x4_21), (3, .int t_16), (0, .ref a_this), (1, .int x1)] → Wd D A s (wX10_playInner cB cI cZ av a_this v_thrown v_size v_begins v_entries v_length v_pressed v_streamFrames v_zeros v_level v_sum v_tail v_isPlayed v_found v_strange v_innerFails_20 v_outerFails v_mostMarks v_unsure v_may v_mocks v_sumThen v_bits v_bytesOf v_foundAt v_innerMarks_22 v_innerTold_14 v_inners_23 v_logs v_marked_3 v_places_7 v_powers v_rows_8 v_syndromes_9 v_values_10 v_word_11) H locs → fX10_playInner_L103 v_innerFails_20 v_innerTold_14 v_marked_3 v_places_7 v_rows_8 v_syndromes_9 v_values_10 v_word_11 x1 t_16 F x4_21 v_innerMarks_22 v_inners_23 = some res → W p l e (rmK 3 79) s m ([.ref a_this, .int x1, .int x2] : List Value).toArray below meth c H locs 0 0 (MQ below (QG D (tyL cB cI cZ) A (fun _ : Int32 × (Nat → Int32) × (Nat → Int32) × (Nat → Int32) × (Nat → Int32) × (Nat → Int32) × (Nat → Int32) × (Nat → Int32) × (Nat → Int32) × (Nat → Int32) => none) (fun res : Int32 × (Nat → Int32) × (Nat → Int32) × (Nat → Int32) × (Nat → Int32) × (Nat → Int32) × (Nat → Int32) × (Nat → Int32) × (Nat → Int32) × (Nat → Int32) => (wX10_playInner cB cI cZ av a_this v_thrown v_size v_begins v_entries v_length v_pressed v_streamFrames v_zeros v_level v_sum v_tail v_isPlayed v_found v_strange (res.1) v_outerFails v_mostMarks v_unsure v_may v_mocks v_sumThen v_bits v_bytesOf v_foundAt (res.2.1) (res.2.2.1) (res.2.2.2.1) v_logs (res.2.2.2.2.1) (res.2.2.2.2.2.1) v_powers (res.2.2.2.2.2.2.1) (res.2.2.2.2.2.2.2.1) (res.2.2.2.2.2.2.2.2.1) (res.2.2.2.2.2.2.2.2.2))) res) ([.ref a_this, .int x1, .int x2] : List Value).toArray s 0 0 A) (F0 m 103 ls []) := by
          intro F
          induction F with
          | zero => intro x4_21 v_innerMarks_22 v_inners_23 ls H locs hl hw h; rw [fX10_playInner_L103.eq_1] at h; cases h
          | succ F103_24 ih103_24 =>
            intro x4_21 v_innerMarks_22 v_inners_23 ls H locs hl hw h
            rw [fX10_playInner_L103.eq_2] at h
            refine lv_iload (pc := 103) hx hb dX10_playInner_103 (lv_at hl 0 rfl) ?_
            refine lv_bipush (pc := 105) (v := 32) hx hb dX10_playInner_105 (by decide) ?_
            refine lv_icmp_ge (pc := 107) (tgt := 148) hx hb dX10_playInner_107 (by decide) (fun hc_25 => ?_) (fun hc_25 => ?_)
            · have h := ift hc_25 h
              exact x_vret (pc := 148) (v := (v_innerFails_20, v_innerMarks_22, v_innerTold_14, v_inners_23, v_marked_3, v_places_7, v_rows_8, v_syndromes_9, v_values_10, v_word_11)) C (Option.some.inj h) rfl hw dX10_playInner_148
            · have h := iff' hc_25 h
              refine lv_aload_n (pc := 110) hx hb dX10_playInner_110 rfl (lv_at hl 2 rfl) ?_
              refine gf_X10_64 (pc := 111) C hw 0 rfl rfl dX10_playInner_111 ?_
              refine lv_bipush (pc := 114) (v := 32) hx hb dX10_playInner_114 (by decide) ?_
              refine lv_iload_n (pc := 116) hx hb dX10_playInner_116 rfl (lv_at hl 3 rfl) ?_
              refine lv_imul (pc := 117) hx hb dX10_playInner_117 ?_
              refine lv_iload (pc := 118) hx hb dX10_playInner_118 (lv_at hl 0 rfl) ?_
              refine lv_iadd (pc := 120) hx hb dX10_playInner_120 ?_
              refine lv_aload_n (pc := 121) hx hb dX10_playInner_121 rfl (lv_at hl 2 rfl) ?_
              refine gf_X10_45 (pc := 122) C hw 0 rfl rfl dX10_playInner_122 ?_
              refine lv_iload (pc := 125) hx hb dX10_playInner_125 (lv_at hl 0 rfl) ?_
              obtain ⟨hi_26, h⟩ := og_at h
              refine x_iald (pc := 127) C hw 14 rfl hi_26 dX10_playInner_127 ?_
              obtain ⟨hi_27, h⟩ := og_at h
              obtain ⟨v_inners_28, ev_inners_28⟩ : ∃ y : Nat → Int32, y = upd v_inners_23 (Int32.toNatClampNeg (((32 : Int32) * x1) + x4_21)) (v_word_11 (Int32.toNatClampNeg x4_21)) := ⟨_, rfl⟩
              have h := nm_at ev_inners_28 h
              refine x_iast (pc := 128) (wX10_playInner cB cI cZ av a_this v_thrown v_size v_begins v_entries v_length v_pressed v_streamFrames v_zeros v_level v_sum v_tail v_isPlayed v_found v_strange v_innerFails_20 v_outerFails v_mostMarks v_unsure v_may v_mocks v_sumThen v_bits v_bytesOf v_foundAt v_innerMarks_22 v_innerTold_14 v_inners_28 v_logs v_marked_3 v_places_7 v_powers v_rows_8 v_syndromes_9 v_values_10 v_word_11) C hw 6 rfl hi_27 (by rw [ev_inners_28]; rfl) dX10_playInner_128 (fun H locs hw => ?_)
              refine lv_aload_n (pc := 129) hx hb dX10_playInner_129 rfl (lv_at hl 2 rfl) ?_
              refine gf_X10_67 (pc := 130) C hw 0 rfl rfl dX10_playInner_130 ?_
              refine lv_bipush (pc := 133) (v := 32) hx hb dX10_playInner_133 (by decide) ?_
              refine lv_iload_n (pc := 135) hx hb dX10_playInner_135 rfl (lv_at hl 3 rfl) ?_
              refine lv_imul (pc := 136) hx hb dX10_playInner_136 ?_
              refine lv_iload (pc := 137) hx hb dX10_playInner_137 (lv_at hl 0 rfl) ?_
              refine lv_iadd (pc := 139) hx hb dX10_playInner_139 ?_
              refine lv_iload_n (pc := 140) hx hb dX10_playInner_140 rfl (lv_at hl 1 rfl) ?_
              obtain ⟨hi_29, h⟩ := og_at h
              obtain ⟨v_innerMarks_30, ev_innerMarks_30⟩ : ∃ y : Nat → Int32, y = upd v_innerMarks_22 (Int32.toNatClampNeg (((32 : Int32) * x1) + x4_21)) (vp_nar .boolean t_16) := ⟨_, rfl⟩
              have h := nm_at ev_innerMarks_30 h
              refine x_zast (pc := 141) (wX10_playInner cB cI cZ av a_this v_thrown v_size v_begins v_entries v_length v_pressed v_streamFrames v_zeros v_level v_sum v_tail v_isPlayed v_found v_strange v_innerFails_20 v_outerFails v_mostMarks v_unsure v_may v_mocks v_sumThen v_bits v_bytesOf v_foundAt v_innerMarks_30 v_innerTold_14 v_inners_28 v_logs v_marked_3 v_places_7 v_powers v_rows_8 v_syndromes_9 v_values_10 v_word_11) C hw 4 rfl hi_29 (by rw [ev_innerMarks_30]; rfl) dX10_playInner_141 (fun H locs hw => ?_)
              obtain ⟨x4_31, ex4_31⟩ : ∃ y : Int32, y = x4_21 + 1 := ⟨_, rfl⟩
              have h := nm_at ex4_31 h
              refine lv_iinc (pc := 142) (v := x4_31) (lv' := [(4, .int x4_31), (3, .int t_16), (0, .ref a_this), (1, .int x1)]) hx hb dX10_playInner_142 hl (k := 0) rfl (by rw [ex4_31]; rfl) (by decide) rfl (fun ls hl => ?_)
              refine lv_goto (pc := 145) (tgt := 103) hx hb dX10_playInner_145 (by decide) ?_
              exact ih103_24 x4_31 v_innerMarks_30 v_inners_28 ls _ _ (lv_sub hl [0, 1, 2, 3] rfl) hw h
        exact Lih103_24 FU 0 v_innerMarks_1 v_inners_2 ls _ _ (lv_sub hl [0, 1, 2, 3] rfl) hw h
      refine lv_if_eq (pc := 88) (tgt := 95) hx hb dX10_playInner_88 (by decide) (fun hc_32 => ?_) (fun hc_32 => ?_)
      · have h := ift hc_32 h
        refine lv_iconst (pc := 95) (v := 0) hx hb dX10_playInner_95 (by decide) ?_
        exact J96_19 0 ls _ _ (lv_sub hl [0, 1, 2] rfl) hw h
      · have h := iff' hc_32 h
        refine lv_iconst (pc := 91) (v := 1) hx hb dX10_playInner_91 (by decide) ?_
        refine lv_goto (pc := 92) (tgt := 96) hx hb dX10_playInner_92 (by decide) ?_
        exact J96_19 1 ls _ _ (lv_sub hl [0, 1, 2] rfl) hw h
    refine lv_if_ge (pc := 73) (tgt := 80) hx hb dX10_playInner_73 (by decide) (fun hc_33 => ?_) (fun hc_33 => ?_)
    · have h := ift hc_33 h
      refine lv_iconst (pc := 80) (v := 0) hx hb dX10_playInner_80 (by decide) ?_
      exact J81_17 0 ls _ _ (lv_sub hl [0, 1] rfl) hw h
    · have h := iff' hc_33 h
      refine lv_iconst (pc := 76) (v := 1) hx hb dX10_playInner_76 (by decide) ?_
      refine lv_goto (pc := 77) (tgt := 81) hx hb dX10_playInner_77 (by decide) ?_
      exact J81_17 1 ls _ _ (lv_sub hl [0, 1] rfl) hw h
  have Lih2_39 : ∀ (F : Nat) (x3_34 : Int32) (v_innerMarks_35 : Nat → Int32) (v_inners_36 : Nat → Int32) (v_marked_37 : Nat → Int32) (v_word_38 : Nat → Int32) (ls : Array Slot) (H : Heap) (locs : List Loc), lv_has ls 5 [(3, .int x3_34), (0, .ref a_this), (1, .int x1), (2, .int x2)] → Wd D A s (wX10_playInner cB cI cZ av a_this v_thrown v_size v_begins v_entries v_length v_pressed v_streamFrames v_zeros v_level v_sum v_tail v_isPlayed v_found v_strange v_innerFails v_outerFails v_mostMarks v_unsure v_may v_mocks v_sumThen v_bits v_bytesOf v_foundAt v_innerMarks_35 v_innerTold v_inners_36 v_logs v_marked_37 v_places v_powers v_rows v_syndromes v_values v_word_38) H locs → fX10_playInner_L2 j54_5 v_found v_length v_bits v_bytesOf v_foundAt x1 F x3_34 v_innerMarks_35 v_inners_36 v_marked_37 v_word_38 = some res → W p l e (rmK 3 79) s m ([.ref a_this, .int x1, .int x2] : List Value).toArray below meth c H locs 0 0 (MQ below (QG D (tyL cB cI cZ) A (fun _ : Int32 × (Nat → Int32) × (Nat → Int32) × (Nat → Int32) × (Nat → Int32) × (Nat → Int32) × (Nat → Int32) × (Nat → Int32) × (Nat → Int32) × (Nat → Int32) => none) (fun res : Int32 × (Nat → Int32) × (Nat → Int32) × (Nat → Int32) × (Nat → Int32) × (Nat → Int32) × (Nat → Int32) × (Nat → Int32) × (Nat → Int32) × (Nat → Int32) => (wX10_playInner cB cI cZ av a_this v_thrown v_size v_begins v_entries v_length v_pressed v_streamFrames v_zeros v_level v_sum v_tail v_isPlayed v_found v_strange (res.1) v_outerFails v_mostMarks v_unsure v_may v_mocks v_sumThen v_bits v_bytesOf v_foundAt (res.2.1) (res.2.2.1) (res.2.2.2.1) v_logs (res.2.2.2.2.1) (res.2.2.2.2.2.1) v_powers (res.2.2.2.2.2.2.1) (res.2.2.2.2.2.2.2.1) (res.2.2.2.2.2.2.2.2.1) (res.2.2.2.2.2.2.2.2.2))) res) ([.ref a_this, .int x1, .int x2] : List Value).toArray s 0 0 A) (F0 m 2 ls []) := by
    intro F
    induction F with
    | zero => intro x3_34 v_innerMarks_35 v_inners_36 v_marked_37 v_word_38 ls H locs hl hw h; rw [fX10_playInner_L2.eq_1] at h; cases h
    | succ F2_39 ih2_39 =>
      intro x3_34 v_innerMarks_35 v_inners_36 v_marked_37 v_word_38 ls H locs hl hw h
      rw [fX10_playInner_L2.eq_2] at h
      refine lv_iload_n (pc := 2) hx hb dX10_playInner_2 rfl (lv_at hl 0 rfl) ?_
      refine lv_bipush (pc := 3) (v := 32) hx hb dX10_playInner_3 (by decide) ?_
      refine lv_icmp_ge (pc := 5) (tgt := 54) hx hb dX10_playInner_5 (by decide) (fun hc_40 => ?_) (fun hc_40 => ?_)
      · have h := ift hc_40 h
        exact J54_5 v_innerMarks_35 v_inners_36 v_marked_37 v_word_38 ls _ _ (lv_sub hl [1, 2, 3] rfl) hw h
      · have h := iff' hc_40 h
        refine lv_aload_n (pc := 8) hx hb dX10_playInner_8 rfl (lv_at hl 1 rfl) ?_
        refine lv_iload_n (pc := 9) hx hb dX10_playInner_9 rfl (lv_at hl 2 rfl) ?_
        refine lv_iload_n (pc := 10) hx hb dX10_playInner_10 rfl (lv_at hl 0 rfl) ?_
        obtain ⟨v_innerMarks_41, v_inners_42, hq_43, h⟩ := ob2_at h
        refine x_callV (pc := 11) (rest := []) (stk := []) (wX10_playInner cB cI cZ av a_this v_thrown v_size v_begins v_entries v_length v_pressed v_streamFrames v_zeros v_level v_sum v_tail v_isPlayed v_found v_strange v_innerFails v_outerFails v_mostMarks v_unsure v_may v_mocks v_sumThen v_bits v_bytesOf v_foundAt v_innerMarks_41 v_innerTold v_inners_42 v_logs v_marked_37 v_places v_powers v_rows v_syndromes v_values v_word_38) C hw (ct_X10_readInner l D cB cI cZ tw av a_this v_thrown v_size v_begins v_entries v_length v_pressed v_streamFrames v_zeros v_level v_sum v_tail v_isPlayed v_found v_strange v_innerFails v_outerFails v_mostMarks v_unsure v_may v_mocks v_sumThen v_bits v_bytesOf v_foundAt v_innerMarks_35 v_inners_36 x1 x3_34 (v_innerMarks_41, v_inners_42) hq_43) cal_X10_readInner tw_1426 (q0 := 0) rfl rfl [0, 1, 2, 3, 4, 6] [5, 7, 8, 9, 10, 11, 12, 13, 14] 15 [((av 30), .inl (cI, 640, .inl v_innerTold)), ((av 4), .inl (cI, 256, .inl v_logs)), ((av 23), .inl (cZ, 32, .inl v_marked_37)), ((av 25), .inl (cI, 4, .inl v_places)), ((av 3), .inl (cI, 512, .inl v_powers)), ((av 27), .inl (cI, 20, .inl v_rows)), ((av 24), .inl (cI, 4, .inl v_syndromes)), ((av 26), .inl (cI, 4, .inl v_values)), ((av 22), .inl (cI, 32, .inl v_word_38))] rfl rfl rfl rfl rfl rfl rfl rfl rfl rfl rfl (Nat.le_of_ble_eq_true rfl) hl.1 ⟨Nat.le_of_ble_eq_true rfl, Nat.le_of_ble_eq_true rfl⟩ ⟨Nat.zero_le _, Nat.zero_le _⟩ dX10_playInner_11 (fun H locs hw => ?_)
        refine lv_aload_n (pc := 14) hx hb dX10_playInner_14 rfl (lv_at hl 1 rfl) ?_
        refine gf_X10_45 (pc := 15) C hw 0 rfl rfl dX10_playInner_15 ?_
        refine lv_iload_n (pc := 18) hx hb dX10_playInner_18 rfl (lv_at hl 0 rfl) ?_
        refine lv_aload_n (pc := 19) hx hb dX10_playInner_19 rfl (lv_at hl 1 rfl) ?_
        refine gf_X10_64 (pc := 20) C hw 0 rfl rfl dX10_playInner_20 ?_
        refine lv_bipush (pc := 23) (v := 32) hx hb dX10_playInner_23 (by decide) ?_
        refine lv_iload_n (pc := 25) hx hb dX10_playInner_25 rfl (lv_at hl 2 rfl) ?_
        refine lv_imul (pc := 26) hx hb dX10_playInner_26 ?_
        refine lv_iload_n (pc := 27) hx hb dX10_playInner_27 rfl (lv_at hl 0 rfl) ?_
        refine lv_iadd (pc := 28) hx hb dX10_playInner_28 ?_
        obtain ⟨hi_44, h⟩ := og_at h
        refine x_iald (pc := 29) C hw 6 rfl hi_44 dX10_playInner_29 ?_
        obtain ⟨hi_45, h⟩ := og_at h
        obtain ⟨v_word_46, ev_word_46⟩ : ∃ y : Nat → Int32, y = upd v_word_38 (Int32.toNatClampNeg x3_34) (v_inners_42 (Int32.toNatClampNeg (((32 : Int32) * x1) + x3_34))) := ⟨_, rfl⟩
        have h := nm_at ev_word_46 h
        refine x_iast (pc := 30) (wX10_playInner cB cI cZ av a_this v_thrown v_size v_begins v_entries v_length v_pressed v_streamFrames v_zeros v_level v_sum v_tail v_isPlayed v_found v_strange v_innerFails v_outerFails v_mostMarks v_unsure v_may v_mocks v_sumThen v_bits v_bytesOf v_foundAt v_innerMarks_41 v_innerTold v_inners_42 v_logs v_marked_37 v_places v_powers v_rows v_syndromes v_values v_word_46) C hw 14 rfl hi_45 (by rw [ev_word_46]; rfl) dX10_playInner_30 (fun H locs hw => ?_)
        refine lv_aload_n (pc := 31) hx hb dX10_playInner_31 rfl (lv_at hl 1 rfl) ?_
        refine gf_X10_48 (pc := 32) C hw 0 rfl rfl dX10_playInner_32 ?_
        refine lv_iload_n (pc := 35) hx hb dX10_playInner_35 rfl (lv_at hl 0 rfl) ?_
        refine lv_aload_n (pc := 36) hx hb dX10_playInner_36 rfl (lv_at hl 1 rfl) ?_
        refine gf_X10_67 (pc := 37) C hw 0 rfl rfl dX10_playInner_37 ?_
        refine lv_bipush (pc := 40) (v := 32) hx hb dX10_playInner_40 (by decide) ?_
        refine lv_iload_n (pc := 42) hx hb dX10_playInner_42 rfl (lv_at hl 2 rfl) ?_
        refine lv_imul (pc := 43) hx hb dX10_playInner_43 ?_
        refine lv_iload_n (pc := 44) hx hb dX10_playInner_44 rfl (lv_at hl 0 rfl) ?_
        refine lv_iadd (pc := 45) hx hb dX10_playInner_45 ?_
        obtain ⟨hi_47, h⟩ := og_at h
        refine x_zald (pc := 46) C hw 4 rfl hi_47 dX10_playInner_46 ?_
        obtain ⟨hi_48, h⟩ := og_at h
        obtain ⟨v_marked_49, ev_marked_49⟩ : ∃ y : Nat → Int32, y = upd v_marked_37 (Int32.toNatClampNeg x3_34) (vp_nar .boolean (v_innerMarks_41 (Int32.toNatClampNeg (((32 : Int32) * x1) + x3_34)))) := ⟨_, rfl⟩
        have h := nm_at ev_marked_49 h
        refine x_zast (pc := 47) (wX10_playInner cB cI cZ av a_this v_thrown v_size v_begins v_entries v_length v_pressed v_streamFrames v_zeros v_level v_sum v_tail v_isPlayed v_found v_strange v_innerFails v_outerFails v_mostMarks v_unsure v_may v_mocks v_sumThen v_bits v_bytesOf v_foundAt v_innerMarks_41 v_innerTold v_inners_42 v_logs v_marked_49 v_places v_powers v_rows v_syndromes v_values v_word_46) C hw 8 rfl hi_48 (by rw [ev_marked_49]; rfl) dX10_playInner_47 (fun H locs hw => ?_)
        obtain ⟨x3_50, ex3_50⟩ : ∃ y : Int32, y = x3_34 + 1 := ⟨_, rfl⟩
        have h := nm_at ex3_50 h
        refine lv_iinc (pc := 48) (v := x3_50) (lv' := [(3, .int x3_50), (0, .ref a_this), (1, .int x1), (2, .int x2)]) hx hb dX10_playInner_48 hl (k := 0) rfl (by rw [ex3_50]; rfl) (by decide) rfl (fun ls hl => ?_)
        refine lv_goto (pc := 51) (tgt := 2) hx hb dX10_playInner_51 (by decide) ?_
        exact ih2_39 x3_50 v_innerMarks_41 v_inners_42 v_marked_49 v_word_46 ls _ _ (lv_sub hl [0, 1, 2, 3] rfl) hw h
  exact Lih2_39 FU 0 v_innerMarks v_inners v_marked v_word ls _ _ (lv_sub hl [0, 1, 2, 3] rfl) hw h
def wX10_playOuter (cB cI cZ : ClassId) (av : Nat → Nat) (a_this : Nat) (v_thrown : Int32) (v_size : Int32) (v_begins : Int32) (v_entries : Int32) (v_length : Int32) (v_pressed : Int32) (v_streamFrames : Int32) (v_zeros : Int32) (v_level : Int32) (v_sum : Int32) (v_tail : Int32) (v_isPlayed : Int32) (v_found : Int32) (v_strange : Int32) (v_innerFails : Int32) (v_outerFails : Int32) (v_mostMarks : Int32) (v_unsure : Int32) (v_may : Int32) (v_mocks : Int32) (v_sumThen : Int32) (v_innerMarks : Nat → Int32) (v_inners : Nat → Int32) (v_logs : Nat → Int32) (v_marked : Nat → Int32) (v_outerMarks : Nat → Int32) (v_outerTold : Nat → Int32) (v_outers : Nat → Int32) (v_places : Nat → Int32) (v_powers : Nat → Int32) (v_rows : Nat → Int32) (v_syndromes : Nat → Int32) (v_values : Nat → Int32) (v_word : Nat → Int32) : va_W := [oX10 a_this av v_thrown v_size v_begins v_entries v_length v_pressed v_streamFrames v_zeros v_level v_sum v_tail v_isPlayed v_found v_strange v_innerFails v_outerFails v_mostMarks v_unsure v_may v_mocks v_sumThen, ((av 29), .inl (cZ, 20480, .inl v_innerMarks)), ((av 28), .inl (cI, 20480, .inl v_inners)), ((av 4), .inl (cI, 256, .inl v_logs)), ((av 23), .inl (cZ, 32, .inl v_marked)), ((av 32), .inl (cZ, 17920, .inl v_outerMarks)), ((av 33), .inl (cI, 640, .inl v_outerTold)), ((av 31), .inl (cI, 17920, .inl v_outers)), ((av 25), .inl (cI, 4, .inl v_places)), ((av 3), .inl (cI, 512, .inl v_powers)), ((av 27), .inl (cI, 20, .inl v_rows)), ((av 24), .inl (cI, 4, .inl v_syndromes)), ((av 26), .inl (cI, 4, .inl v_values)), ((av 22), .inl (cI, 32, .inl v_word))]
def fX10_playOuter_L185 (t_5 : Int32) (v_outerFails_21 : Int32) (v_marked_2 : Nat → Int32) (v_outerTold_15 : Nat → Int32) (v_places_8 : Nat → Int32) (v_rows_9 : Nat → Int32) (v_syndromes_10 : Nat → Int32) (v_values_11 : Nat → Int32) (v_word_12 : Nat → Int32) (x1 : Int32) (t_17 : Int32) (x3_1 : Int32) : Nat → Int32 → (Nat → Int32) → (Nat → Int32) → Option (Int32 × Int32 × (Nat → Int32) × (Nat → Int32) × (Nat → Int32) × (Nat → Int32) × (Nat → Int32) × (Nat → Int32) × (Nat → Int32) × (Nat → Int32) × (Nat → Int32))
  | 0, _, _, _ => none
  | F185_25 + 1, x5_22, v_outerMarks_23, v_outers_24 => if (28 : Int32) ≤ x5_22 then some (t_5, v_outerFails_21, v_marked_2, v_outerMarks_23, v_outerTold_15, v_outers_24, v_places_8, v_rows_9, v_syndromes_10, v_values_11, v_word_12) else og (ixb x5_22 32) (og (ixb (((28 : Int32) * x1) + x5_22) 17920) (nm (upd v_outers_24 (Int32.toNatClampNeg (((28 : Int32) * x1) + x5_22)) (v_word_12 (Int32.toNatClampNeg x5_22))) fun v_outers_29 => jk (fun (t_30 : Int32) => og (ixb (((28 : Int32) * x1) + x5_22) 17920) (nm (upd v_outerMarks_23 (Int32.toNatClampNeg (((28 : Int32) * x1) + x5_22)) (vp_nar .boolean t_30)) fun v_outerMarks_33 => nm (x5_22 + 1 : Int32) fun x5_34 => fX10_playOuter_L185 t_5 v_outerFails_21 v_marked_2 v_outerTold_15 v_places_8 v_rows_9 v_syndromes_10 v_values_11 v_word_12 x1 t_17 x3_1 F185_25 x5_34 v_outerMarks_33 v_outers_29)) fun j247_31 => jk (j247_31 0) fun j246_35 => if t_17 = 0 then j246_35 else jk (j247_31 1) fun j242_37 => if x3_1 < (5 : Int32) then j242_37 else og (ixb x5_22 32) (if (v_marked_2 (Int32.toNatClampNeg x5_22)) = 0 then j246_35 else j242_37)))
def fX10_playOuter_L5 (j114_4 : Int32 → (Nat → Int32) → (Nat → Int32) → Option (Int32 × Int32 × (Nat → Int32) × (Nat → Int32) × (Nat → Int32) × (Nat → Int32) × (Nat → Int32) × (Nat → Int32) × (Nat → Int32) × (Nat → Int32) × (Nat → Int32))) (x1 : Int32) (v_found : Int32) (v_innerMarks : Nat → Int32) (v_inners : Nat → Int32) : Nat → Int32 → Int32 → (Nat → Int32) → (Nat → Int32) → Option (Int32 × Int32 × (Nat → Int32) × (Nat → Int32) × (Nat → Int32) × (Nat → Int32) × (Nat → Int32) × (Nat → Int32) × (Nat → Int32) × (Nat → Int32) × (Nat → Int32))
  | 0, _, _, _, _ => none
  | F5_48 + 1, x4_44, x3_45, v_marked_46, v_word_47 => if (28 : Int32) ≤ x4_44 then j114_4 x3_45 v_marked_46 v_word_47 else nm ((x1 + ((4 : Int32) * x4_44)) : Int32) fun x5_50 => jk (fun (t_51 : Int32) => og (ixb x4_44 32) (nm (upd v_word_47 (Int32.toNatClampNeg x4_44) t_51) fun v_word_54 => jk (fun (t_55 : Int32) => og (ixb x4_44 32) (nm (upd v_marked_46 (Int32.toNatClampNeg x4_44) (vp_nar .boolean t_55)) fun v_marked_58 => og (ixb x4_44 32) (jk (fun (t_60 : Int32) => nm ((x3_45 + t_60) : Int32) fun x3_62 => nm (x4_44 + 1 : Int32) fun x4_63 => fX10_playOuter_L5 j114_4 x1 v_found v_innerMarks v_inners F5_48 x4_63 x3_62 v_marked_58 v_word_54) fun j106_61 => if (v_marked_58 (Int32.toNatClampNeg x4_44)) = 0 then j106_61 0 else j106_61 1))) fun j89_56 => jk (j89_56 1) fun j84_65 => if v_found ≤ x5_50 then j84_65 else og (ixb (((32 : Int32) * x5_50) + x4_44) 20480) (if (v_innerMarks (Int32.toNatClampNeg (((32 : Int32) * x5_50) + x4_44))) = 0 then j89_56 0 else j84_65))) fun j52_52 => if v_found ≤ x5_50 then j52_52 0 else og (ixb (((32 : Int32) * x5_50) + x4_44) 20480) (j52_52 (v_inners (Int32.toNatClampNeg (((32 : Int32) * x5_50) + x4_44))))
def fX10_playOuter (v_found : Int32) (v_mostMarks : Int32) (v_outerFails : Int32) (v_innerMarks : Nat → Int32) (v_inners : Nat → Int32) (v_logs : Nat → Int32) (v_marked : Nat → Int32) (v_outerMarks : Nat → Int32) (v_outerTold : Nat → Int32) (v_outers : Nat → Int32) (v_places : Nat → Int32) (v_powers : Nat → Int32) (v_rows : Nat → Int32) (v_syndromes : Nat → Int32) (v_values : Nat → Int32) (v_word : Nat → Int32) (x1 : Int32) (x2 : Int32) : Option (Int32 × Int32 × (Nat → Int32) × (Nat → Int32) × (Nat → Int32) × (Nat → Int32) × (Nat → Int32) × (Nat → Int32) × (Nat → Int32) × (Nat → Int32) × (Nat → Int32)) := jk (fun (x3_1 : Int32) (v_marked_2 : Nat → Int32) (v_word_3 : Nat → Int32) => jk (fun (t_5 : Int32) => ob6 (fX10_mended v_logs v_marked_2 v_places v_powers v_rows v_syndromes v_values v_word_3 28 x2) fun r_7 v_places_8 v_rows_9 v_syndromes_10 v_values_11 v_word_12 => og (ixb x1 640) (nm (upd v_outerTold (Int32.toNatClampNeg x1) r_7) fun v_outerTold_15 => og (ixb x1 640) (jk (fun (t_17 : Int32) => jk (fun (t_19 : Int32) => nm ((v_outerFails + t_19) : Int32) fun v_outerFails_21 => fX10_playOuter_L185 t_5 v_outerFails_21 v_marked_2 v_outerTold_15 v_places_8 v_rows_9 v_syndromes_10 v_values_11 v_word_12 x1 t_17 x3_1 FU 0 v_outerMarks v_outers) fun j178_20 => if t_17 = 0 then j178_20 0 else j178_20 1) fun j161_18 => if 0 ≤ (v_outerTold_15 (Int32.toNatClampNeg x1)) then j161_18 0 else j161_18 1))) fun j131_6 => if x3_1 ≤ v_mostMarks then j131_6 v_mostMarks else j131_6 x3_1) fun j114_4 => fX10_playOuter_L5 j114_4 x1 v_found v_innerMarks v_inners FU 0 0 v_marked v_word
set_option maxHeartbeats 4000000 in
set_option maxRecDepth 100000 in
theorem ct_X10_playOuter (l : Launch) (D : va_G) (cB cI cZ : ClassId) (tw : Nat) (av : Nat → Nat) (a_this : Nat) (v_thrown : Int32) (v_size : Int32) (v_begins : Int32) (v_entries : Int32) (v_length : Int32) (v_pressed : Int32) (v_streamFrames : Int32) (v_zeros : Int32) (v_level : Int32) (v_sum : Int32) (v_tail : Int32) (v_isPlayed : Int32) (v_found : Int32) (v_strange : Int32) (v_innerFails : Int32) (v_outerFails : Int32) (v_mostMarks : Int32) (v_unsure : Int32) (v_may : Int32) (v_mocks : Int32) (v_sumThen : Int32) (v_innerMarks : Nat → Int32) (v_inners : Nat → Int32) (v_logs : Nat → Int32) (v_marked : Nat → Int32) (v_outerMarks : Nat → Int32) (v_outerTold : Nat → Int32) (v_outers : Nat → Int32) (v_places : Nat → Int32) (v_powers : Nat → Int32) (v_rows : Nat → Int32) (v_syndromes : Nat → Int32) (v_values : Nat → Int32) (v_word : Nat → Int32) (x1 : Int32) (x2 : Int32) (res : Int32 × Int32 × (Nat → Int32) × (Nat → Int32) × (Nat → Int32) × (Nat → Int32) × (Nat → Int32) × (Nat → Int32) × (Nat → Int32) × (Nat → Int32) × (Nat → Int32)) (h : fX10_playOuter v_found v_mostMarks v_outerFails v_innerMarks v_inners v_logs v_marked v_outerMarks v_outerTold v_outers v_places v_powers v_rows v_syndromes v_values v_word x1 x2 = some res) : Ctr l yX10_playOuter cX10_playOuter 6 none (rmK 3 79) D (tyL cB cI cZ) tw [.ref a_this, .int x1, .int x2] (wX10_playOuter cB cI cZ av a_this v_thrown v_size v_begins v_entries v_length v_pressed v_streamFrames v_zeros v_level v_sum v_tail v_isPlayed v_found v_strange v_innerFails v_outerFails v_mostMarks v_unsure v_may v_mocks v_sumThen v_innerMarks v_inners v_logs v_marked v_outerMarks v_outerTold v_outers v_places v_powers v_rows v_syndromes v_values v_word) (fun _ : Int32 × Int32 × (Nat → Int32) × (Nat → Int32) × (Nat → Int32) × (Nat → Int32) × (Nat → Int32) × (Nat → Int32) × (Nat → Int32) × (Nat → Int32) × (Nat → Int32) => none) (fun res : Int32 × Int32 × (Nat → Int32) × (Nat → Int32) × (Nat → Int32) × (Nat → Int32) × (Nat → Int32) × (Nat → Int32) × (Nat → Int32) × (Nat → Int32) × (Nat → Int32) => (wX10_playOuter cB cI cZ av a_this v_thrown v_size v_begins v_entries v_length v_pressed v_streamFrames v_zeros v_level v_sum v_tail v_isPlayed v_found v_strange v_innerFails (res.2.1) (res.1) v_unsure v_may v_mocks v_sumThen v_innerMarks v_inners v_logs (res.2.2.1) (res.2.2.2.1) (res.2.2.2.2.1) (res.2.2.2.2.2.1) (res.2.2.2.2.2.2.1) v_powers (res.2.2.2.2.2.2.2.1) (res.2.2.2.2.2.2.2.2.1) (res.2.2.2.2.2.2.2.2.2.1) (res.2.2.2.2.2.2.2.2.2.2))) res := by
  refine ctr_of RX10 (by decide) rfl (Nat.le_of_ble_eq_true rfl) ?_
  intro p e s m below meth c A C hw ls hl
  have hx := C.1
  have hb := C.2.1
  have hl : lv_has ls 6 [(0, .ref a_this), (1, .int x1), (2, .int x2)] := hl
  unfold fX10_playOuter at h
  refine lv_iconst (pc := 0) (v := 0) hx hb dX10_playOuter_0 (by decide) ?_
  refine lv_istore_n (pc := 1) (lv' := [(3, .int 0), (0, .ref a_this), (1, .int x1), (2, .int x2)]) hx hb dX10_playOuter_1 rfl hl (by decide) rfl (fun ls hl => ?_)
  refine lv_iconst (pc := 2) (v := 0) hx hb dX10_playOuter_2 (by decide) ?_
  refine lv_istore (pc := 3) (lv' := [(4, .int 0), (3, .int 0), (0, .ref a_this), (1, .int x1), (2, .int x2)]) hx hb dX10_playOuter_3 hl (by decide) rfl (fun ls hl => ?_)
  obtain ⟨j114_4, ej114_4, h⟩ := jk_at h
  have J114_4 : ∀ (x3_1 : Int32) (v_marked_2 : Nat → Int32) (v_word_3 : Nat → Int32) (ls : Array Slot) (H : Heap) (locs : List Loc), lv_has ls 6 [(3, .int x3_1), (0, .ref a_this), (1, .int x1), (2, .int x2)] → Wd D A s (wX10_playOuter cB cI cZ av a_this v_thrown v_size v_begins v_entries v_length v_pressed v_streamFrames v_zeros v_level v_sum v_tail v_isPlayed v_found v_strange v_innerFails v_outerFails v_mostMarks v_unsure v_may v_mocks v_sumThen v_innerMarks v_inners v_logs v_marked_2 v_outerMarks v_outerTold v_outers v_places v_powers v_rows v_syndromes v_values v_word_3) H locs → j114_4 x3_1 v_marked_2 v_word_3 = some res → W p l e (rmK 3 79) s m ([.ref a_this, .int x1, .int x2] : List Value).toArray below meth c H locs 0 0 (MQ below (QG D (tyL cB cI cZ) A (fun _ : Int32 × Int32 × (Nat → Int32) × (Nat → Int32) × (Nat → Int32) × (Nat → Int32) × (Nat → Int32) × (Nat → Int32) × (Nat → Int32) × (Nat → Int32) × (Nat → Int32) => none) (fun res : Int32 × Int32 × (Nat → Int32) × (Nat → Int32) × (Nat → Int32) × (Nat → Int32) × (Nat → Int32) × (Nat → Int32) × (Nat → Int32) × (Nat → Int32) × (Nat → Int32) => (wX10_playOuter cB cI cZ av a_this v_thrown v_size v_begins v_entries v_length v_pressed v_streamFrames v_zeros v_level v_sum v_tail v_isPlayed v_found v_strange v_innerFails (res.2.1) (res.1) v_unsure v_may v_mocks v_sumThen v_innerMarks v_inners v_logs (res.2.2.1) (res.2.2.2.1) (res.2.2.2.2.1) (res.2.2.2.2.2.1) (res.2.2.2.2.2.2.1) v_powers (res.2.2.2.2.2.2.2.1) (res.2.2.2.2.2.2.2.2.1) (res.2.2.2.2.2.2.2.2.2.1) (res.2.2.2.2.2.2.2.2.2.2))) res) ([.ref a_this, .int x1, .int x2] : List Value).toArray s 0 0 A) (F0 m 114 ls []) := by
    intro x3_1 v_marked_2 v_word_3 ls H locs hl hw h
    have h := k3_at ej114_4 h
    refine lv_aload_n (pc := 114) hx hb dX10_playOuter_114 rfl (lv_at hl 1 rfl) ?_
    refine lv_iload_n (pc := 115) hx hb dX10_playOuter_115 rfl (lv_at hl 0 rfl) ?_
    refine lv_aload_n (pc := 116) hx hb dX10_playOuter_116 rfl (lv_at hl 1 rfl) ?_
    refine gf_X10_308 (pc := 117) C hw 0 rfl rfl dX10_playOuter_117 ?_
    obtain ⟨j131_6, ej131_6, h⟩ := jk_at h
    have J131_6 : ∀ (t_5 : Int32) (ls : Array Slot) (H : Heap) (locs : List Loc), lv_has ls 6 [(3, .int x3_1), (0, .ref a_this), (1, .int x1), (2, .int x2)] → Wd D A s (wX10_playOuter cB cI cZ av a_this v_thrown v_size v_begins v_entries v_length v_pressed v_streamFrames v_zeros v_level v_sum v_tail v_isPlayed v_found v_strange v_innerFails v_outerFails v_mostMarks v_unsure v_may v_mocks v_sumThen v_innerMarks v_inners v_logs v_marked_2 v_outerMarks v_outerTold v_outers v_places v_powers v_rows v_syndromes v_values v_word_3) H locs → j131_6 t_5 = some res → W p l e (rmK 3 79) s m ([.ref a_this, .int x1, .int x2] : List Value).toArray below meth c H locs 0 0 (MQ below (QG D (tyL cB cI cZ) A (fun _ : Int32 × Int32 × (Nat → Int32) × (Nat → Int32) × (Nat → Int32) × (Nat → Int32) × (Nat → Int32) × (Nat → Int32) × (Nat → Int32) × (Nat → Int32) × (Nat → Int32) => none) (fun res : Int32 × Int32 × (Nat → Int32) × (Nat → Int32) × (Nat → Int32) × (Nat → Int32) × (Nat → Int32) × (Nat → Int32) × (Nat → Int32) × (Nat → Int32) × (Nat → Int32) => (wX10_playOuter cB cI cZ av a_this v_thrown v_size v_begins v_entries v_length v_pressed v_streamFrames v_zeros v_level v_sum v_tail v_isPlayed v_found v_strange v_innerFails (res.2.1) (res.1) v_unsure v_may v_mocks v_sumThen v_innerMarks v_inners v_logs (res.2.2.1) (res.2.2.2.1) (res.2.2.2.2.1) (res.2.2.2.2.2.1) (res.2.2.2.2.2.2.1) v_powers (res.2.2.2.2.2.2.2.1) (res.2.2.2.2.2.2.2.2.1) (res.2.2.2.2.2.2.2.2.2.1) (res.2.2.2.2.2.2.2.2.2.2))) res) ([.ref a_this, .int x1, .int x2] : List Value).toArray s 0 0 A) (F0 m 131 ls [.int t_5, .ref a_this]) := by
      intro t_5 ls H locs hl hw h
      have h := k1_at ej131_6 h
      refine pf_X10_308 (pc := 131) (wX10_playOuter cB cI cZ av a_this v_thrown v_size v_begins v_entries v_length v_pressed v_streamFrames v_zeros v_level v_sum v_tail v_isPlayed v_found v_strange v_innerFails v_outerFails t_5 v_unsure v_may v_mocks v_sumThen v_innerMarks v_inners v_logs v_marked_2 v_outerMarks v_outerTold v_outers v_places v_powers v_rows v_syndromes v_values v_word_3) C hw 0 rfl rfl rfl rfl (Nat.le_of_ble_eq_true rfl) dX10_playOuter_131 (fun H locs hw => ?_)
      refine lv_aload_n (pc := 134) hx hb dX10_playOuter_134 rfl (lv_at hl 1 rfl) ?_
      refine gf_X10_79 (pc := 135) C hw 0 rfl rfl dX10_playOuter_135 ?_
      refine lv_iload_n (pc := 138) hx hb dX10_playOuter_138 rfl (lv_at hl 2 rfl) ?_
      refine lv_aload_n (pc := 139) hx hb dX10_playOuter_139 rfl (lv_at hl 1 rfl) ?_
      refine lv_bipush (pc := 140) (v := 28) hx hb dX10_playOuter_140 (by decide) ?_
      refine lv_iload_n (pc := 142) hx hb dX10_playOuter_142 rfl (lv_at hl 3 rfl) ?_
      obtain ⟨r_7, v_places_8, v_rows_9, v_syndromes_10, v_values_11, v_word_12, hq_13, h⟩ := ob6_at h
      refine x_callV (pc := 143) (rest := [.int x1, .ref (av 33)]) (stk := [.int r_7, .int x1, .ref (av 33)]) (wX10_playOuter cB cI cZ av a_this v_thrown v_size v_begins v_entries v_length v_pressed v_streamFrames v_zeros v_level v_sum v_tail v_isPlayed v_found v_strange v_innerFails v_outerFails t_5 v_unsure v_may v_mocks v_sumThen v_innerMarks v_inners v_logs v_marked_2 v_outerMarks v_outerTold v_outers v_places_8 v_powers v_rows_9 v_syndromes_10 v_values_11 v_word_12) C hw (ct_X10_mended l D cB cI cZ tw av a_this v_thrown v_size v_begins v_entries v_length v_pressed v_streamFrames v_zeros v_level v_sum v_tail v_isPlayed v_found v_strange v_innerFails v_outerFails t_5 v_unsure v_may v_mocks v_sumThen v_logs v_marked_2 v_places v_powers v_rows v_syndromes v_values v_word_3 28 x2 (r_7, v_places_8, v_rows_9, v_syndromes_10, v_values_11, v_word_12) hq_13) cal_X10_mended tw_1232 (q0 := 0) rfl rfl [0, 3, 4, 8, 9, 10, 11, 12, 13] [1, 2, 5, 6, 7] 14 [((av 29), .inl (cZ, 20480, .inl v_innerMarks)), ((av 28), .inl (cI, 20480, .inl v_inners)), ((av 32), .inl (cZ, 17920, .inl v_outerMarks)), ((av 33), .inl (cI, 640, .inl v_outerTold)), ((av 31), .inl (cI, 17920, .inl v_outers))] rfl rfl rfl rfl rfl rfl rfl rfl rfl rfl rfl (Nat.le_of_ble_eq_true rfl) hl.1 ⟨Nat.le_of_ble_eq_true rfl, Nat.le_of_ble_eq_true rfl⟩ ⟨Nat.zero_le _, Nat.zero_le _⟩ dX10_playOuter_143 (fun H locs hw => ?_)
      obtain ⟨hi_14, h⟩ := og_at h
      obtain ⟨v_outerTold_15, ev_outerTold_15⟩ : ∃ y : Nat → Int32, y = upd v_outerTold (Int32.toNatClampNeg x1) r_7 := ⟨_, rfl⟩
      have h := nm_at ev_outerTold_15 h
      refine x_iast (pc := 146) (wX10_playOuter cB cI cZ av a_this v_thrown v_size v_begins v_entries v_length v_pressed v_streamFrames v_zeros v_level v_sum v_tail v_isPlayed v_found v_strange v_innerFails v_outerFails t_5 v_unsure v_may v_mocks v_sumThen v_innerMarks v_inners v_logs v_marked_2 v_outerMarks v_outerTold_15 v_outers v_places_8 v_powers v_rows_9 v_syndromes_10 v_values_11 v_word_12) C hw 6 rfl hi_14 (by rw [ev_outerTold_15]; rfl) dX10_playOuter_146 (fun H locs hw => ?_)
      refine lv_aload_n (pc := 147) hx hb dX10_playOuter_147 rfl (lv_at hl 1 rfl) ?_
      refine gf_X10_79 (pc := 148) C hw 0 rfl rfl dX10_playOuter_148 ?_
      refine lv_iload_n (pc := 151) hx hb dX10_playOuter_151 rfl (lv_at hl 2 rfl) ?_
      obtain ⟨hi_16, h⟩ := og_at h
      refine x_iald (pc := 152) C hw 6 rfl hi_16 dX10_playOuter_152 ?_
      obtain ⟨j161_18, ej161_18, h⟩ := jk_at h
      have J161_18 : ∀ (t_17 : Int32) (ls : Array Slot) (H : Heap) (locs : List Loc), lv_has ls 6 [(3, .int x3_1), (0, .ref a_this), (1, .int x1)] → Wd D A s (wX10_playOuter cB cI cZ av a_this v_thrown v_size v_begins v_entries v_length v_pressed v_streamFrames v_zeros v_level v_sum v_tail v_isPlayed v_found v_strange v_innerFails v_outerFails t_5 v_unsure v_may v_mocks v_sumThen v_innerMarks v_inners v_logs v_marked_2 v_outerMarks v_outerTold_15 v_outers v_places_8 v_powers v_rows_9 v_syndromes_10 v_values_11 v_word_12) H locs → j161_18 t_17 = some res → W p l e (rmK 3 79) s m ([.ref a_this, .int x1, .int x2] : List Value).toArray below meth c H locs 0 0 (MQ below (QG D (tyL cB cI cZ) A (fun _ : Int32 × Int32 × (Nat → Int32) × (Nat → Int32) × (Nat → Int32) × (Nat → Int32) × (Nat → Int32) × (Nat → Int32) × (Nat → Int32) × (Nat → Int32) × (Nat → Int32) => none) (fun res : Int32 × Int32 × (Nat → Int32) × (Nat → Int32) × (Nat → Int32) × (Nat → Int32) × (Nat → Int32) × (Nat → Int32) × (Nat → Int32) × (Nat → Int32) × (Nat → Int32) => (wX10_playOuter cB cI cZ av a_this v_thrown v_size v_begins v_entries v_length v_pressed v_streamFrames v_zeros v_level v_sum v_tail v_isPlayed v_found v_strange v_innerFails (res.2.1) (res.1) v_unsure v_may v_mocks v_sumThen v_innerMarks v_inners v_logs (res.2.2.1) (res.2.2.2.1) (res.2.2.2.2.1) (res.2.2.2.2.2.1) (res.2.2.2.2.2.2.1) v_powers (res.2.2.2.2.2.2.2.1) (res.2.2.2.2.2.2.2.2.1) (res.2.2.2.2.2.2.2.2.2.1) (res.2.2.2.2.2.2.2.2.2.2))) res) ([.ref a_this, .int x1, .int x2] : List Value).toArray s 0 0 A) (F0 m 161 ls [.int t_17]) := by
        intro t_17 ls H locs hl hw h
        have h := k1_at ej161_18 h
        refine lv_istore (pc := 161) (lv' := [(4, .int t_17), (3, .int x3_1), (0, .ref a_this), (1, .int x1)]) hx hb dX10_playOuter_161 hl (by decide) rfl (fun ls hl => ?_)
        refine lv_aload_n (pc := 163) hx hb dX10_playOuter_163 rfl (lv_at hl 2 rfl) ?_
        refine lv_dup (pc := 164) hx hb dX10_playOuter_164 rfl ?_
        refine gf_X10_311 (pc := 165) C hw 0 rfl rfl dX10_playOuter_165 ?_
        refine lv_iload (pc := 168) hx hb dX10_playOuter_168 (lv_at hl 0 rfl) ?_
        obtain ⟨j178_20, ej178_20, h⟩ := jk_at h
        have J178_20 : ∀ (t_19 : Int32) (ls : Array Slot) (H : Heap) (locs : List Loc), lv_has ls 6 [(4, .int t_17), (3, .int x3_1), (0, .ref a_this), (1, .int x1)] → Wd D A s (wX10_playOuter cB cI cZ av a_this v_thrown v_size v_begins v_entries v_length v_pressed v_streamFrames v_zeros v_level v_sum v_tail v_isPlayed v_found v_strange v_innerFails v_outerFails t_5 v_unsure v_may v_mocks v_sumThen v_innerMarks v_inners v_logs v_marked_2 v_outerMarks v_outerTold_15 v_outers v_places_8 v_powers v_rows_9 v_syndromes_10 v_values_11 v_word_12) H locs → j178_20 t_19 = some res → W p l e (rmK 3 79) s m ([.ref a_this, .int x1, .int x2] : List Value).toArray below meth c H locs 0 0 (MQ below (QG D (tyL cB cI cZ) A (fun _ : Int32 × Int32 × (Nat → Int32) × (Nat → Int32) × (Nat → Int32) × (Nat → Int32) × (Nat → Int32) × (Nat → Int32) × (Nat → Int32) × (Nat → Int32) × (Nat → Int32) => none) (fun res : Int32 × Int32 × (Nat → Int32) × (Nat → Int32) × (Nat → Int32) × (Nat → Int32) × (Nat → Int32) × (Nat → Int32) × (Nat → Int32) × (Nat → Int32) × (Nat → Int32) => (wX10_playOuter cB cI cZ av a_this v_thrown v_size v_begins v_entries v_length v_pressed v_streamFrames v_zeros v_level v_sum v_tail v_isPlayed v_found v_strange v_innerFails (res.2.1) (res.1) v_unsure v_may v_mocks v_sumThen v_innerMarks v_inners v_logs (res.2.2.1) (res.2.2.2.1) (res.2.2.2.2.1) (res.2.2.2.2.2.1) (res.2.2.2.2.2.2.1) v_powers (res.2.2.2.2.2.2.2.1) (res.2.2.2.2.2.2.2.2.1) (res.2.2.2.2.2.2.2.2.2.1) (res.2.2.2.2.2.2.2.2.2.2))) res) ([.ref a_this, .int x1, .int x2] : List Value).toArray s 0 0 A) (F0 m 178 ls [.int t_19, .int v_outerFails, .ref a_this]) := by
          intro t_19 ls H locs hl hw h
          have h := k1_at ej178_20 h
          refine lv_iadd (pc := 178) hx hb dX10_playOuter_178 ?_
          refine lv_topi (pc := 179) (fun v_outerFails_21 ev_outerFails_21 => ?_)
          have h := nm_at ev_outerFails_21 h
          refine pf_X10_311 (pc := 179) (wX10_playOuter cB cI cZ av a_this v_thrown v_size v_begins v_entries v_length v_pressed v_streamFrames v_zeros v_level v_sum v_tail v_isPlayed v_found v_strange v_innerFails v_outerFails_21 t_5 v_unsure v_may v_mocks v_sumThen v_innerMarks v_inners v_logs v_marked_2 v_outerMarks v_outerTold_15 v_outers v_places_8 v_powers v_rows_9 v_syndromes_10 v_values_11 v_word_12) C hw 0 rfl rfl rfl rfl (Nat.le_of_ble_eq_true rfl) dX10_playOuter_179 (fun H locs hw => ?_)
          refine lv_iconst (pc := 182) (v := 0) hx hb dX10_playOuter_182 (by decide) ?_
          refine lv_istore (pc := 183) (lv' := [(5, .int 0), (4, .int t_17), (3, .int x3_1), (0, .ref a_this), (1, .int x1)]) hx hb dX10_playOuter_183 hl (by decide) rfl (fun ls hl => ?_)
          have Lih185_25 : ∀ (F : Nat) (x5_22 : Int32) (v_outerMarks_23 : Nat → Int32) (v_outers_24 : Nat → Int32) (ls : Array Slot) (H : Heap) (locs : List Loc), lv_has ls 6 [(5, .int x5_22), (4, .int t_17), (3, .int x3_1), (0, .ref a_this), (1, .int x1)] → Wd D A s (wX10_playOuter cB cI cZ av a_this v_thrown v_size v_begins v_entries v_length v_pressed v_streamFrames v_zeros v_level v_sum v_tail v_isPlayed v_found v_strange v_innerFails v_outerFails_21 t_5 v_unsure v_may v_mocks v_sumThen v_innerMarks v_inners v_logs v_marked_2 v_outerMarks_23 v_outerTold_15 v_outers_24 v_places_8 v_powers v_rows_9 v_syndromes_10 v_values_11 v_word_12) H locs → fX10_playOuter_L185 t_5 v_outerFails_21 v_marked_2 v_outerTold_15 v_places_8 v_rows_9 v_syndromes_10 v_values_11 v_word_12 x1 t_17 x3_1 F x5_22 v_outerMarks_23 v_outers_24 = some res → W p l e (rmK 3 79) s m ([.ref a_this, .int x1, .int x2] : List Value).toArray below meth c H locs 0 0 (MQ below (QG D (tyL cB cI cZ) A (fun _ : Int32 × Int32 × (Nat → Int32) × (Nat → Int32) × (Nat → Int32) × (Nat → Int32) × (Nat → Int32) × (Nat → Int32) × (Nat → Int32) × (Nat → Int32) × (Nat → Int32) => none) (fun res : Int32 × Int32 × (Nat → Int32) × (Nat → Int32) × (Nat → Int32) × (Nat → Int32) × (Nat → Int32) × (Nat → Int32) × (Nat → Int32) × (Nat → Int32) × (Nat → Int32) => (wX10_playOuter cB cI cZ av a_this v_thrown v_size v_begins v_entries v_length v_pressed v_streamFrames v_zeros v_level v_sum v_tail v_isPlayed v_found v_strange v_innerFails (res.2.1) (res.1) v_unsure v_may v_mocks v_sumThen v_innerMarks v_inners v_logs (res.2.2.1) (res.2.2.2.1) (res.2.2.2.2.1) (res.2.2.2.2.2.1) (res.2.2.2.2.2.2.1) v_powers (res.2.2.2.2.2.2.2.1) (res.2.2.2.2.2.2.2.2.1) (res.2.2.2.2.2.2.2.2.2.1) (res.2.2.2.2.2.2.2.2.2.2))) res) ([.ref a_this, .int x1, .int x2] : List Value).toArray s 0 0 A) (F0 m 185 ls []) := by
            intro F
            induction F with
            | zero => intro x5_22 v_outerMarks_23 v_outers_24 ls H locs hl hw h; rw [fX10_playOuter_L185.eq_1] at h; cases h
            | succ F185_25 ih185_25 =>
              intro x5_22 v_outerMarks_23 v_outers_24 ls H locs hl hw h
              rw [fX10_playOuter_L185.eq_2] at h
              refine lv_iload (pc := 185) hx hb dX10_playOuter_185 (lv_at hl 0 rfl) ?_
              refine lv_bipush (pc := 187) (v := 28) hx hb dX10_playOuter_187 (by decide) ?_
              refine lv_icmp_ge (pc := 189) (tgt := 254) hx hb dX10_playOuter_189 (by decide) (fun hc_26 => ?_) (fun hc_26 => ?_)
              · have h := ift hc_26 h
                exact x_vret (pc := 254) (v := (t_5, v_outerFails_21, v_marked_2, v_outerMarks_23, v_outerTold_15, v_outers_24, v_places_8, v_rows_9, v_syndromes_10, v_values_11, v_word_12)) C (Option.some.inj h) rfl hw dX10_playOuter_254
              · have h := iff' hc_26 h
                refine lv_aload_n (pc := 192) hx hb dX10_playOuter_192 rfl (lv_at hl 3 rfl) ?_
                refine gf_X10_73 (pc := 193) C hw 0 rfl rfl dX10_playOuter_193 ?_
                refine lv_bipush (pc := 196) (v := 28) hx hb dX10_playOuter_196 (by decide) ?_
                refine lv_iload_n (pc := 198) hx hb dX10_playOuter_198 rfl (lv_at hl 4 rfl) ?_
                refine lv_imul (pc := 199) hx hb dX10_playOuter_199 ?_
                refine lv_iload (pc := 200) hx hb dX10_playOuter_200 (lv_at hl 0 rfl) ?_
                refine lv_iadd (pc := 202) hx hb dX10_playOuter_202 ?_
                refine lv_aload_n (pc := 203) hx hb dX10_playOuter_203 rfl (lv_at hl 3 rfl) ?_
                refine gf_X10_45 (pc := 204) C hw 0 rfl rfl dX10_playOuter_204 ?_
                refine lv_iload (pc := 207) hx hb dX10_playOuter_207 (lv_at hl 0 rfl) ?_
                obtain ⟨hi_27, h⟩ := og_at h
                refine x_iald (pc := 209) C hw 13 rfl hi_27 dX10_playOuter_209 ?_
                obtain ⟨hi_28, h⟩ := og_at h
                obtain ⟨v_outers_29, ev_outers_29⟩ : ∃ y : Nat → Int32, y = upd v_outers_24 (Int32.toNatClampNeg (((28 : Int32) * x1) + x5_22)) (v_word_12 (Int32.toNatClampNeg x5_22)) := ⟨_, rfl⟩
                have h := nm_at ev_outers_29 h
                refine x_iast (pc := 210) (wX10_playOuter cB cI cZ av a_this v_thrown v_size v_begins v_entries v_length v_pressed v_streamFrames v_zeros v_level v_sum v_tail v_isPlayed v_found v_strange v_innerFails v_outerFails_21 t_5 v_unsure v_may v_mocks v_sumThen v_innerMarks v_inners v_logs v_marked_2 v_outerMarks_23 v_outerTold_15 v_outers_29 v_places_8 v_powers v_rows_9 v_syndromes_10 v_values_11 v_word_12) C hw 7 rfl hi_28 (by rw [ev_outers_29]; rfl) dX10_playOuter_210 (fun H locs hw => ?_)
                refine lv_aload_n (pc := 211) hx hb dX10_playOuter_211 rfl (lv_at hl 3 rfl) ?_
                refine gf_X10_76 (pc := 212) C hw 0 rfl rfl dX10_playOuter_212 ?_
                refine lv_bipush (pc := 215) (v := 28) hx hb dX10_playOuter_215 (by decide) ?_
                refine lv_iload_n (pc := 217) hx hb dX10_playOuter_217 rfl (lv_at hl 4 rfl) ?_
                refine lv_imul (pc := 218) hx hb dX10_playOuter_218 ?_
                refine lv_iload (pc := 219) hx hb dX10_playOuter_219 (lv_at hl 0 rfl) ?_
                refine lv_iadd (pc := 221) hx hb dX10_playOuter_221 ?_
                refine lv_iload (pc := 222) hx hb dX10_playOuter_222 (lv_at hl 1 rfl) ?_
                obtain ⟨j247_31, ej247_31, h⟩ := jk_at h
                have J247_31 : ∀ (t_30 : Int32) (ls : Array Slot) (H : Heap) (locs : List Loc), lv_has ls 6 [(5, .int x5_22), (4, .int t_17), (3, .int x3_1), (0, .ref a_this), (1, .int x1)] → Wd D A s (wX10_playOuter cB cI cZ av a_this v_thrown v_size v_begins v_entries v_length v_pressed v_streamFrames v_zeros v_level v_sum v_tail v_isPlayed v_found v_strange v_innerFails v_outerFails_21 t_5 v_unsure v_may v_mocks v_sumThen v_innerMarks v_inners v_logs v_marked_2 v_outerMarks_23 v_outerTold_15 v_outers_29 v_places_8 v_powers v_rows_9 v_syndromes_10 v_values_11 v_word_12) H locs → j247_31 t_30 = some res → W p l e (rmK 3 79) s m ([.ref a_this, .int x1, .int x2] : List Value).toArray below meth c H locs 0 0 (MQ below (QG D (tyL cB cI cZ) A (fun _ : Int32 × Int32 × (Nat → Int32) × (Nat → Int32) × (Nat → Int32) × (Nat → Int32) × (Nat → Int32) × (Nat → Int32) × (Nat → Int32) × (Nat → Int32) × (Nat → Int32) => none) (fun res : Int32 × Int32 × (Nat → Int32) × (Nat → Int32) × (Nat → Int32) × (Nat → Int32) × (Nat → Int32) × (Nat → Int32) × (Nat → Int32) × (Nat → Int32) × (Nat → Int32) => (wX10_playOuter cB cI cZ av a_this v_thrown v_size v_begins v_entries v_length v_pressed v_streamFrames v_zeros v_level v_sum v_tail v_isPlayed v_found v_strange v_innerFails (res.2.1) (res.1) v_unsure v_may v_mocks v_sumThen v_innerMarks v_inners v_logs (res.2.2.1) (res.2.2.2.1) (res.2.2.2.2.1) (res.2.2.2.2.2.1) (res.2.2.2.2.2.2.1) v_powers (res.2.2.2.2.2.2.2.1) (res.2.2.2.2.2.2.2.2.1) (res.2.2.2.2.2.2.2.2.2.1) (res.2.2.2.2.2.2.2.2.2.2))) res) ([.ref a_this, .int x1, .int x2] : List Value).toArray s 0 0 A) (F0 m 247 ls [.int t_30, .int (((28 : Int32) * x1) + x5_22), .ref (av 32)]) := by
                  intro t_30 ls H locs hl hw h
                  have h := k1_at ej247_31 h
                  obtain ⟨hi_32, h⟩ := og_at h
                  obtain ⟨v_outerMarks_33, ev_outerMarks_33⟩ : ∃ y : Nat → Int32, y = upd v_outerMarks_23 (Int32.toNatClampNeg (((28 : Int32) * x1) + x5_22)) (vp_nar .boolean t_30) := ⟨_, rfl⟩
                  have h := nm_at ev_outerMarks_33 h
                  refine x_zast (pc := 247) (wX10_playOuter cB cI cZ av a_this v_thrown v_size v_begins v_entries v_length v_pressed v_streamFrames v_zeros v_level v_sum v_tail v_isPlayed v_found v_strange v_innerFails v_outerFails_21 t_5 v_unsure v_may v_mocks v_sumThen v_innerMarks v_inners v_logs v_marked_2 v_outerMarks_33 v_outerTold_15 v_outers_29 v_places_8 v_powers v_rows_9 v_syndromes_10 v_values_11 v_word_12) C hw 5 rfl hi_32 (by rw [ev_outerMarks_33]; rfl) dX10_playOuter_247 (fun H locs hw => ?_)
                  obtain ⟨x5_34, ex5_34⟩ : ∃ y : Int32, y = x5_22 + 1 := ⟨_, rfl⟩
                  have h := nm_at ex5_34 h
                  refine lv_iinc (pc := 248) (v := x5_34) (lv' := [(5, .int x5_34), (4, .int t_17), (3, .int x3_1), (0, .ref a_this), (1, .int x1)]) hx hb dX10_playOuter_248 hl (k := 0) rfl (by rw [ex5_34]; rfl) (by decide) rfl (fun ls hl => ?_)
                  refine lv_goto (pc := 251) (tgt := 185) hx hb dX10_playOuter_251 (by decide) ?_
                  exact ih185_25 x5_34 v_outerMarks_33 v_outers_29 ls _ _ (lv_sub hl [0, 1, 2, 3, 4] rfl) hw h
                obtain ⟨j246_35, ej246_35, h⟩ := jk_at h
                have J246_35 : ∀  (ls : Array Slot) (H : Heap) (locs : List Loc), lv_has ls 6 [(5, .int x5_22), (4, .int t_17), (3, .int x3_1), (0, .ref a_this), (1, .int x1)] → Wd D A s (wX10_playOuter cB cI cZ av a_this v_thrown v_size v_begins v_entries v_length v_pressed v_streamFrames v_zeros v_level v_sum v_tail v_isPlayed v_found v_strange v_innerFails v_outerFails_21 t_5 v_unsure v_may v_mocks v_sumThen v_innerMarks v_inners v_logs v_marked_2 v_outerMarks_23 v_outerTold_15 v_outers_29 v_places_8 v_powers v_rows_9 v_syndromes_10 v_values_11 v_word_12) H locs → j246_35 = some res → W p l e (rmK 3 79) s m ([.ref a_this, .int x1, .int x2] : List Value).toArray below meth c H locs 0 0 (MQ below (QG D (tyL cB cI cZ) A (fun _ : Int32 × Int32 × (Nat → Int32) × (Nat → Int32) × (Nat → Int32) × (Nat → Int32) × (Nat → Int32) × (Nat → Int32) × (Nat → Int32) × (Nat → Int32) × (Nat → Int32) => none) (fun res : Int32 × Int32 × (Nat → Int32) × (Nat → Int32) × (Nat → Int32) × (Nat → Int32) × (Nat → Int32) × (Nat → Int32) × (Nat → Int32) × (Nat → Int32) × (Nat → Int32) => (wX10_playOuter cB cI cZ av a_this v_thrown v_size v_begins v_entries v_length v_pressed v_streamFrames v_zeros v_level v_sum v_tail v_isPlayed v_found v_strange v_innerFails (res.2.1) (res.1) v_unsure v_may v_mocks v_sumThen v_innerMarks v_inners v_logs (res.2.2.1) (res.2.2.2.1) (res.2.2.2.2.1) (res.2.2.2.2.2.1) (res.2.2.2.2.2.2.1) v_powers (res.2.2.2.2.2.2.2.1) (res.2.2.2.2.2.2.2.2.1) (res.2.2.2.2.2.2.2.2.2.1) (res.2.2.2.2.2.2.2.2.2.2))) res) ([.ref a_this, .int x1, .int x2] : List Value).toArray s 0 0 A) (F0 m 246 ls [.int (((28 : Int32) * x1) + x5_22), .ref (av 32)]) := by
                  intro  ls H locs hl hw h
                  have h := k0_at ej246_35 h
                  refine lv_iconst (pc := 246) (v := 0) hx hb dX10_playOuter_246 (by decide) ?_
                  exact J247_31 0 ls _ _ (lv_sub hl [0, 1, 2, 3, 4] rfl) hw h
                refine lv_if_eq (pc := 224) (tgt := 246) hx hb dX10_playOuter_224 (by decide) (fun hc_36 => ?_) (fun hc_36 => ?_)
                · have h := ift hc_36 h
                  exact J246_35  ls _ _ (lv_sub hl [0, 1, 2, 3, 4] rfl) hw h
                · have h := iff' hc_36 h
                  refine lv_iload_n (pc := 227) hx hb dX10_playOuter_227 rfl (lv_at hl 2 rfl) ?_
                  refine lv_iconst (pc := 228) (v := 5) hx hb dX10_playOuter_228 (by decide) ?_
                  obtain ⟨j242_37, ej242_37, h⟩ := jk_at h
                  have J242_37 : ∀  (ls : Array Slot) (H : Heap) (locs : List Loc), lv_has ls 6 [(5, .int x5_22), (4, .int t_17), (3, .int x3_1), (0, .ref a_this), (1, .int x1)] → Wd D A s (wX10_playOuter cB cI cZ av a_this v_thrown v_size v_begins v_entries v_length v_pressed v_streamFrames v_zeros v_level v_sum v_tail v_isPlayed v_found v_strange v_innerFails v_outerFails_21 t_5 v_unsure v_may v_mocks v_sumThen v_innerMarks v_inners v_logs v_marked_2 v_outerMarks_23 v_outerTold_15 v_outers_29 v_places_8 v_powers v_rows_9 v_syndromes_10 v_values_11 v_word_12) H locs → j242_37 = some res → W p l e (rmK 3 79) s m ([.ref a_this, .int x1, .int x2] : List Value).toArray below meth c H locs 0 0 (MQ below (QG D (tyL cB cI cZ) A (fun _ : Int32 × Int32 × (Nat → Int32) × (Nat → Int32) × (Nat → Int32) × (Nat → Int32) × (Nat → Int32) × (Nat → Int32) × (Nat → Int32) × (Nat → Int32) × (Nat → Int32) => none) (fun res : Int32 × Int32 × (Nat → Int32) × (Nat → Int32) × (Nat → Int32) × (Nat → Int32) × (Nat → Int32) × (Nat → Int32) × (Nat → Int32) × (Nat → Int32) × (Nat → Int32) => (wX10_playOuter cB cI cZ av a_this v_thrown v_size v_begins v_entries v_length v_pressed v_streamFrames v_zeros v_level v_sum v_tail v_isPlayed v_found v_strange v_innerFails (res.2.1) (res.1) v_unsure v_may v_mocks v_sumThen v_innerMarks v_inners v_logs (res.2.2.1) (res.2.2.2.1) (res.2.2.2.2.1) (res.2.2.2.2.2.1) (res.2.2.2.2.2.2.1) v_powers (res.2.2.2.2.2.2.2.1) (res.2.2.2.2.2.2.2.2.1) (res.2.2.2.2.2.2.2.2.2.1) (res.2.2.2.2.2.2.2.2.2.2))) res) ([.ref a_this, .int x1, .int x2] : List Value).toArray s 0 0 A) (F0 m 242 ls [.int (((28 : Int32) * x1) + x5_22), .ref (av 32)]) := by
                    intro  ls H locs hl hw h
                    have h := k0_at ej242_37 h
                    refine lv_iconst (pc := 242) (v := 1) hx hb dX10_playOuter_242 (by decide) ?_
                    refine lv_goto (pc := 243) (tgt := 247) hx hb dX10_playOuter_243 (by decide) ?_
                    exact J247_31 1 ls _ _ (lv_sub hl [0, 1, 2, 3, 4] rfl) hw h
                  refine lv_icmp_lt (pc := 229) (tgt := 242) hx hb dX10_playOuter_229 (by decide) (fun hc_38 => ?_) (fun hc_38 => ?_)
                  · have h := ift hc_38 h
                    exact J242_37  ls _ _ (lv_sub hl [0, 1, 2, 3, 4] rfl) hw h
                  · have h := iff' hc_38 h
                    refine lv_aload_n (pc := 232) hx hb dX10_playOuter_232 rfl (lv_at hl 3 rfl) ?_
                    refine gf_X10_48 (pc := 233) C hw 0 rfl rfl dX10_playOuter_233 ?_
                    refine lv_iload (pc := 236) hx hb dX10_playOuter_236 (lv_at hl 0 rfl) ?_
                    obtain ⟨hi_39, h⟩ := og_at h
                    refine x_zald (pc := 238) C hw 4 rfl hi_39 dX10_playOuter_238 ?_
                    refine lv_if_eq (pc := 239) (tgt := 246) hx hb dX10_playOuter_239 (by decide) (fun hc_40 => ?_) (fun hc_40 => ?_)
                    · have h := ift hc_40 h
                      exact J246_35  ls _ _ (lv_sub hl [0, 1, 2, 3, 4] rfl) hw h
                    · have h := iff' hc_40 h
                      exact J242_37  ls _ _ (lv_sub hl [0, 1, 2, 3, 4] rfl) hw h
          exact Lih185_25 FU 0 v_outerMarks v_outers ls _ _ (lv_sub hl [0, 1, 2, 3, 4] rfl) hw h
        refine lv_if_eq (pc := 170) (tgt := 177) hx hb dX10_playOuter_170 (by decide) (fun hc_41 => ?_) (fun hc_41 => ?_)
        · have h := ift hc_41 h
          refine lv_iconst (pc := 177) (v := 0) hx hb dX10_playOuter_177 (by decide) ?_
          exact J178_20 0 ls _ _ (lv_sub hl [0, 1, 2, 3] rfl) hw h
        · have h := iff' hc_41 h
          refine lv_iconst (pc := 173) (v := 1) hx hb dX10_playOuter_173 (by decide) ?_
          refine lv_goto (pc := 174) (tgt := 178) hx hb dX10_playOuter_174 (by decide) ?_
          exact J178_20 1 ls _ _ (lv_sub hl [0, 1, 2, 3] rfl) hw h
      refine lv_if_ge (pc := 153) (tgt := 160) hx hb dX10_playOuter_153 (by decide) (fun hc_42 => ?_) (fun hc_42 => ?_)
      · have h := ift hc_42 h
        refine lv_iconst (pc := 160) (v := 0) hx hb dX10_playOuter_160 (by decide) ?_
        exact J161_18 0 ls _ _ (lv_sub hl [0, 1, 2] rfl) hw h
      · have h := iff' hc_42 h
        refine lv_iconst (pc := 156) (v := 1) hx hb dX10_playOuter_156 (by decide) ?_
        refine lv_goto (pc := 157) (tgt := 161) hx hb dX10_playOuter_157 (by decide) ?_
        exact J161_18 1 ls _ _ (lv_sub hl [0, 1, 2] rfl) hw h
    refine lv_icmp_le (pc := 120) (tgt := 127) hx hb dX10_playOuter_120 (by decide) (fun hc_43 => ?_) (fun hc_43 => ?_)
    · have h := ift hc_43 h
      refine lv_aload_n (pc := 127) hx hb dX10_playOuter_127 rfl (lv_at hl 1 rfl) ?_
      refine gf_X10_308 (pc := 128) C hw 0 rfl rfl dX10_playOuter_128 ?_
      exact J131_6 v_mostMarks ls _ _ (lv_sub hl [0, 1, 2, 3] rfl) hw h
    · have h := iff' hc_43 h
      refine lv_iload_n (pc := 123) hx hb dX10_playOuter_123 rfl (lv_at hl 0 rfl) ?_
      refine lv_goto (pc := 124) (tgt := 131) hx hb dX10_playOuter_124 (by decide) ?_
      exact J131_6 x3_1 ls _ _ (lv_sub hl [0, 1, 2, 3] rfl) hw h
  have Lih5_48 : ∀ (F : Nat) (x4_44 : Int32) (x3_45 : Int32) (v_marked_46 : Nat → Int32) (v_word_47 : Nat → Int32) (ls : Array Slot) (H : Heap) (locs : List Loc), lv_has ls 6 [(4, .int x4_44), (3, .int x3_45), (0, .ref a_this), (1, .int x1), (2, .int x2)] → Wd D A s (wX10_playOuter cB cI cZ av a_this v_thrown v_size v_begins v_entries v_length v_pressed v_streamFrames v_zeros v_level v_sum v_tail v_isPlayed v_found v_strange v_innerFails v_outerFails v_mostMarks v_unsure v_may v_mocks v_sumThen v_innerMarks v_inners v_logs v_marked_46 v_outerMarks v_outerTold v_outers v_places v_powers v_rows v_syndromes v_values v_word_47) H locs → fX10_playOuter_L5 j114_4 x1 v_found v_innerMarks v_inners F x4_44 x3_45 v_marked_46 v_word_47 = some res → W p l e (rmK 3 79) s m ([.ref a_this, .int x1, .int x2] : List Value).toArray below meth c H locs 0 0 (MQ below (QG D (tyL cB cI cZ) A (fun _ : Int32 × Int32 × (Nat → Int32) × (Nat → Int32) × (Nat → Int32) × (Nat → Int32) × (Nat → Int32) × (Nat → Int32) × (Nat → Int32) × (Nat → Int32) × (Nat → Int32) => none) (fun res : Int32 × Int32 × (Nat → Int32) × (Nat → Int32) × (Nat → Int32) × (Nat → Int32) × (Nat → Int32) × (Nat → Int32) × (Nat → Int32) × (Nat → Int32) × (Nat → Int32) => (wX10_playOuter cB cI cZ av a_this v_thrown v_size v_begins v_entries v_length v_pressed v_streamFrames v_zeros v_level v_sum v_tail v_isPlayed v_found v_strange v_innerFails (res.2.1) (res.1) v_unsure v_may v_mocks v_sumThen v_innerMarks v_inners v_logs (res.2.2.1) (res.2.2.2.1) (res.2.2.2.2.1) (res.2.2.2.2.2.1) (res.2.2.2.2.2.2.1) v_powers (res.2.2.2.2.2.2.2.1) (res.2.2.2.2.2.2.2.2.1) (res.2.2.2.2.2.2.2.2.2.1) (res.2.2.2.2.2.2.2.2.2.2))) res) ([.ref a_this, .int x1, .int x2] : List Value).toArray s 0 0 A) (F0 m 5 ls []) := by
    intro F
    induction F with
    | zero => intro x4_44 x3_45 v_marked_46 v_word_47 ls H locs hl hw h; rw [fX10_playOuter_L5.eq_1] at h; cases h
    | succ F5_48 ih5_48 =>
      intro x4_44 x3_45 v_marked_46 v_word_47 ls H locs hl hw h
      rw [fX10_playOuter_L5.eq_2] at h
      refine lv_iload (pc := 5) hx hb dX10_playOuter_5 (lv_at hl 0 rfl) ?_
      refine lv_bipush (pc := 7) (v := 28) hx hb dX10_playOuter_7 (by decide) ?_
      refine lv_icmp_ge (pc := 9) (tgt := 114) hx hb dX10_playOuter_9 (by decide) (fun hc_49 => ?_) (fun hc_49 => ?_)
      · have h := ift hc_49 h
        exact J114_4 x3_45 v_marked_46 v_word_47 ls _ _ (lv_sub hl [1, 2, 3, 4] rfl) hw h
      · have h := iff' hc_49 h
        refine lv_iload_n (pc := 12) hx hb dX10_playOuter_12 rfl (lv_at hl 3 rfl) ?_
        refine lv_iconst (pc := 13) (v := 4) hx hb dX10_playOuter_13 (by decide) ?_
        refine lv_iload (pc := 14) hx hb dX10_playOuter_14 (lv_at hl 0 rfl) ?_
        refine lv_imul (pc := 16) hx hb dX10_playOuter_16 ?_
        refine lv_iadd (pc := 17) hx hb dX10_playOuter_17 ?_
        refine lv_topi (pc := 18) (fun x5_50 ex5_50 => ?_)
        have h := nm_at ex5_50 h
        refine lv_istore (pc := 18) (lv' := [(5, .int x5_50), (4, .int x4_44), (3, .int x3_45), (0, .ref a_this), (1, .int x1), (2, .int x2)]) hx hb dX10_playOuter_18 hl (by decide) rfl (fun ls hl => ?_)
        refine lv_aload_n (pc := 20) hx hb dX10_playOuter_20 rfl (lv_at hl 3 rfl) ?_
        refine gf_X10_45 (pc := 21) C hw 0 rfl rfl dX10_playOuter_21 ?_
        refine lv_iload (pc := 24) hx hb dX10_playOuter_24 (lv_at hl 1 rfl) ?_
        refine lv_iload (pc := 26) hx hb dX10_playOuter_26 (lv_at hl 0 rfl) ?_
        refine lv_aload_n (pc := 28) hx hb dX10_playOuter_28 rfl (lv_at hl 3 rfl) ?_
        refine gf_X10_296 (pc := 29) C hw 0 rfl rfl dX10_playOuter_29 ?_
        obtain ⟨j52_52, ej52_52, h⟩ := jk_at h
        have J52_52 : ∀ (t_51 : Int32) (ls : Array Slot) (H : Heap) (locs : List Loc), lv_has ls 6 [(5, .int x5_50), (4, .int x4_44), (3, .int x3_45), (0, .ref a_this), (1, .int x1), (2, .int x2)] → Wd D A s (wX10_playOuter cB cI cZ av a_this v_thrown v_size v_begins v_entries v_length v_pressed v_streamFrames v_zeros v_level v_sum v_tail v_isPlayed v_found v_strange v_innerFails v_outerFails v_mostMarks v_unsure v_may v_mocks v_sumThen v_innerMarks v_inners v_logs v_marked_46 v_outerMarks v_outerTold v_outers v_places v_powers v_rows v_syndromes v_values v_word_47) H locs → j52_52 t_51 = some res → W p l e (rmK 3 79) s m ([.ref a_this, .int x1, .int x2] : List Value).toArray below meth c H locs 0 0 (MQ below (QG D (tyL cB cI cZ) A (fun _ : Int32 × Int32 × (Nat → Int32) × (Nat → Int32) × (Nat → Int32) × (Nat → Int32) × (Nat → Int32) × (Nat → Int32) × (Nat → Int32) × (Nat → Int32) × (Nat → Int32) => none) (fun res : Int32 × Int32 × (Nat → Int32) × (Nat → Int32) × (Nat → Int32) × (Nat → Int32) × (Nat → Int32) × (Nat → Int32) × (Nat → Int32) × (Nat → Int32) × (Nat → Int32) => (wX10_playOuter cB cI cZ av a_this v_thrown v_size v_begins v_entries v_length v_pressed v_streamFrames v_zeros v_level v_sum v_tail v_isPlayed v_found v_strange v_innerFails (res.2.1) (res.1) v_unsure v_may v_mocks v_sumThen v_innerMarks v_inners v_logs (res.2.2.1) (res.2.2.2.1) (res.2.2.2.2.1) (res.2.2.2.2.2.1) (res.2.2.2.2.2.2.1) v_powers (res.2.2.2.2.2.2.2.1) (res.2.2.2.2.2.2.2.2.1) (res.2.2.2.2.2.2.2.2.2.1) (res.2.2.2.2.2.2.2.2.2.2))) res) ([.ref a_this, .int x1, .int x2] : List Value).toArray s 0 0 A) (F0 m 52 ls [.int t_51, .int x4_44, .ref (av 22)]) := by
          intro t_51 ls H locs hl hw h
          have h := k1_at ej52_52 h
          obtain ⟨hi_53, h⟩ := og_at h
          obtain ⟨v_word_54, ev_word_54⟩ : ∃ y : Nat → Int32, y = upd v_word_47 (Int32.toNatClampNeg x4_44) t_51 := ⟨_, rfl⟩
          have h := nm_at ev_word_54 h
          refine x_iast (pc := 52) (wX10_playOuter cB cI cZ av a_this v_thrown v_size v_begins v_entries v_length v_pressed v_streamFrames v_zeros v_level v_sum v_tail v_isPlayed v_found v_strange v_innerFails v_outerFails v_mostMarks v_unsure v_may v_mocks v_sumThen v_innerMarks v_inners v_logs v_marked_46 v_outerMarks v_outerTold v_outers v_places v_powers v_rows v_syndromes v_values v_word_54) C hw 13 rfl hi_53 (by rw [ev_word_54]; rfl) dX10_playOuter_52 (fun H locs hw => ?_)
          refine lv_aload_n (pc := 53) hx hb dX10_playOuter_53 rfl (lv_at hl 3 rfl) ?_
          refine gf_X10_48 (pc := 54) C hw 0 rfl rfl dX10_playOuter_54 ?_
          refine lv_iload (pc := 57) hx hb dX10_playOuter_57 (lv_at hl 1 rfl) ?_
          refine lv_iload (pc := 59) hx hb dX10_playOuter_59 (lv_at hl 0 rfl) ?_
          refine lv_aload_n (pc := 61) hx hb dX10_playOuter_61 rfl (lv_at hl 3 rfl) ?_
          refine gf_X10_296 (pc := 62) C hw 0 rfl rfl dX10_playOuter_62 ?_
          obtain ⟨j89_56, ej89_56, h⟩ := jk_at h
          have J89_56 : ∀ (t_55 : Int32) (ls : Array Slot) (H : Heap) (locs : List Loc), lv_has ls 6 [(4, .int x4_44), (3, .int x3_45), (0, .ref a_this), (1, .int x1), (2, .int x2)] → Wd D A s (wX10_playOuter cB cI cZ av a_this v_thrown v_size v_begins v_entries v_length v_pressed v_streamFrames v_zeros v_level v_sum v_tail v_isPlayed v_found v_strange v_innerFails v_outerFails v_mostMarks v_unsure v_may v_mocks v_sumThen v_innerMarks v_inners v_logs v_marked_46 v_outerMarks v_outerTold v_outers v_places v_powers v_rows v_syndromes v_values v_word_54) H locs → j89_56 t_55 = some res → W p l e (rmK 3 79) s m ([.ref a_this, .int x1, .int x2] : List Value).toArray below meth c H locs 0 0 (MQ below (QG D (tyL cB cI cZ) A (fun _ : Int32 × Int32 × (Nat → Int32) × (Nat → Int32) × (Nat → Int32) × (Nat → Int32) × (Nat → Int32) × (Nat → Int32) × (Nat → Int32) × (Nat → Int32) × (Nat → Int32) => none) (fun res : Int32 × Int32 × (Nat → Int32) × (Nat → Int32) × (Nat → Int32) × (Nat → Int32) × (Nat → Int32) × (Nat → Int32) × (Nat → Int32) × (Nat → Int32) × (Nat → Int32) => (wX10_playOuter cB cI cZ av a_this v_thrown v_size v_begins v_entries v_length v_pressed v_streamFrames v_zeros v_level v_sum v_tail v_isPlayed v_found v_strange v_innerFails (res.2.1) (res.1) v_unsure v_may v_mocks v_sumThen v_innerMarks v_inners v_logs (res.2.2.1) (res.2.2.2.1) (res.2.2.2.2.1) (res.2.2.2.2.2.1) (res.2.2.2.2.2.2.1) v_powers (res.2.2.2.2.2.2.2.1) (res.2.2.2.2.2.2.2.2.1) (res.2.2.2.2.2.2.2.2.2.1) (res.2.2.2.2.2.2.2.2.2.2))) res) ([.ref a_this, .int x1, .int x2] : List Value).toArray s 0 0 A) (F0 m 89 ls [.int t_55, .int x4_44, .ref (av 23)]) := by
            intro t_55 ls H locs hl hw h
            have h := k1_at ej89_56 h
            obtain ⟨hi_57, h⟩ := og_at h
            obtain ⟨v_marked_58, ev_marked_58⟩ : ∃ y : Nat → Int32, y = upd v_marked_46 (Int32.toNatClampNeg x4_44) (vp_nar .boolean t_55) := ⟨_, rfl⟩
            have h := nm_at ev_marked_58 h
            refine x_zast (pc := 89) (wX10_playOuter cB cI cZ av a_this v_thrown v_size v_begins v_entries v_length v_pressed v_streamFrames v_zeros v_level v_sum v_tail v_isPlayed v_found v_strange v_innerFails v_outerFails v_mostMarks v_unsure v_may v_mocks v_sumThen v_innerMarks v_inners v_logs v_marked_58 v_outerMarks v_outerTold v_outers v_places v_powers v_rows v_syndromes v_values v_word_54) C hw 4 rfl hi_57 (by rw [ev_marked_58]; rfl) dX10_playOuter_89 (fun H locs hw => ?_)
            refine lv_iload_n (pc := 90) hx hb dX10_playOuter_90 rfl (lv_at hl 1 rfl) ?_
            refine lv_aload_n (pc := 91) hx hb dX10_playOuter_91 rfl (lv_at hl 2 rfl) ?_
            refine gf_X10_48 (pc := 92) C hw 0 rfl rfl dX10_playOuter_92 ?_
            refine lv_iload (pc := 95) hx hb dX10_playOuter_95 (lv_at hl 0 rfl) ?_
            obtain ⟨hi_59, h⟩ := og_at h
            refine x_zald (pc := 97) C hw 4 rfl hi_59 dX10_playOuter_97 ?_
            obtain ⟨j106_61, ej106_61, h⟩ := jk_at h
            have J106_61 : ∀ (t_60 : Int32) (ls : Array Slot) (H : Heap) (locs : List Loc), lv_has ls 6 [(4, .int x4_44), (0, .ref a_this), (1, .int x1), (2, .int x2)] → Wd D A s (wX10_playOuter cB cI cZ av a_this v_thrown v_size v_begins v_entries v_length v_pressed v_streamFrames v_zeros v_level v_sum v_tail v_isPlayed v_found v_strange v_innerFails v_outerFails v_mostMarks v_unsure v_may v_mocks v_sumThen v_innerMarks v_inners v_logs v_marked_58 v_outerMarks v_outerTold v_outers v_places v_powers v_rows v_syndromes v_values v_word_54) H locs → j106_61 t_60 = some res → W p l e (rmK 3 79) s m ([.ref a_this, .int x1, .int x2] : List Value).toArray below meth c H locs 0 0 (MQ below (QG D (tyL cB cI cZ) A (fun _ : Int32 × Int32 × (Nat → Int32) × (Nat → Int32) × (Nat → Int32) × (Nat → Int32) × (Nat → Int32) × (Nat → Int32) × (Nat → Int32) × (Nat → Int32) × (Nat → Int32) => none) (fun res : Int32 × Int32 × (Nat → Int32) × (Nat → Int32) × (Nat → Int32) × (Nat → Int32) × (Nat → Int32) × (Nat → Int32) × (Nat → Int32) × (Nat → Int32) × (Nat → Int32) => (wX10_playOuter cB cI cZ av a_this v_thrown v_size v_begins v_entries v_length v_pressed v_streamFrames v_zeros v_level v_sum v_tail v_isPlayed v_found v_strange v_innerFails (res.2.1) (res.1) v_unsure v_may v_mocks v_sumThen v_innerMarks v_inners v_logs (res.2.2.1) (res.2.2.2.1) (res.2.2.2.2.1) (res.2.2.2.2.2.1) (res.2.2.2.2.2.2.1) v_powers (res.2.2.2.2.2.2.2.1) (res.2.2.2.2.2.2.2.2.1) (res.2.2.2.2.2.2.2.2.2.1) (res.2.2.2.2.2.2.2.2.2.2))) res) ([.ref a_this, .int x1, .int x2] : List Value).toArray s 0 0 A) (F0 m 106 ls [.int t_60, .int x3_45]) := by
              intro t_60 ls H locs hl hw h
              have h := k1_at ej106_61 h
              refine lv_iadd (pc := 106) hx hb dX10_playOuter_106 ?_
              refine lv_topi (pc := 107) (fun x3_62 ex3_62 => ?_)
              have h := nm_at ex3_62 h
              refine lv_istore_n (pc := 107) (lv' := [(3, .int x3_62), (4, .int x4_44), (0, .ref a_this), (1, .int x1), (2, .int x2)]) hx hb dX10_playOuter_107 rfl hl (by decide) rfl (fun ls hl => ?_)
              obtain ⟨x4_63, ex4_63⟩ : ∃ y : Int32, y = x4_44 + 1 := ⟨_, rfl⟩
              have h := nm_at ex4_63 h
              refine lv_iinc (pc := 108) (v := x4_63) (lv' := [(4, .int x4_63), (3, .int x3_62), (0, .ref a_this), (1, .int x1), (2, .int x2)]) hx hb dX10_playOuter_108 hl (k := 1) rfl (by rw [ex4_63]; rfl) (by decide) rfl (fun ls hl => ?_)
              refine lv_goto (pc := 111) (tgt := 5) hx hb dX10_playOuter_111 (by decide) ?_
              exact ih5_48 x4_63 x3_62 v_marked_58 v_word_54 ls _ _ (lv_sub hl [0, 1, 2, 3, 4] rfl) hw h
            refine lv_if_eq (pc := 98) (tgt := 105) hx hb dX10_playOuter_98 (by decide) (fun hc_64 => ?_) (fun hc_64 => ?_)
            · have h := ift hc_64 h
              refine lv_iconst (pc := 105) (v := 0) hx hb dX10_playOuter_105 (by decide) ?_
              exact J106_61 0 ls _ _ (lv_sub hl [0, 2, 3, 4] rfl) hw h
            · have h := iff' hc_64 h
              refine lv_iconst (pc := 101) (v := 1) hx hb dX10_playOuter_101 (by decide) ?_
              refine lv_goto (pc := 102) (tgt := 106) hx hb dX10_playOuter_102 (by decide) ?_
              exact J106_61 1 ls _ _ (lv_sub hl [0, 2, 3, 4] rfl) hw h
          obtain ⟨j84_65, ej84_65, h⟩ := jk_at h
          have J84_65 : ∀  (ls : Array Slot) (H : Heap) (locs : List Loc), lv_has ls 6 [(4, .int x4_44), (3, .int x3_45), (0, .ref a_this), (1, .int x1), (2, .int x2)] → Wd D A s (wX10_playOuter cB cI cZ av a_this v_thrown v_size v_begins v_entries v_length v_pressed v_streamFrames v_zeros v_level v_sum v_tail v_isPlayed v_found v_strange v_innerFails v_outerFails v_mostMarks v_unsure v_may v_mocks v_sumThen v_innerMarks v_inners v_logs v_marked_46 v_outerMarks v_outerTold v_outers v_places v_powers v_rows v_syndromes v_values v_word_54) H locs → j84_65 = some res → W p l e (rmK 3 79) s m ([.ref a_this, .int x1, .int x2] : List Value).toArray below meth c H locs 0 0 (MQ below (QG D (tyL cB cI cZ) A (fun _ : Int32 × Int32 × (Nat → Int32) × (Nat → Int32) × (Nat → Int32) × (Nat → Int32) × (Nat → Int32) × (Nat → Int32) × (Nat → Int32) × (Nat → Int32) × (Nat → Int32) => none) (fun res : Int32 × Int32 × (Nat → Int32) × (Nat → Int32) × (Nat → Int32) × (Nat → Int32) × (Nat → Int32) × (Nat → Int32) × (Nat → Int32) × (Nat → Int32) × (Nat → Int32) => (wX10_playOuter cB cI cZ av a_this v_thrown v_size v_begins v_entries v_length v_pressed v_streamFrames v_zeros v_level v_sum v_tail v_isPlayed v_found v_strange v_innerFails (res.2.1) (res.1) v_unsure v_may v_mocks v_sumThen v_innerMarks v_inners v_logs (res.2.2.1) (res.2.2.2.1) (res.2.2.2.2.1) (res.2.2.2.2.2.1) (res.2.2.2.2.2.2.1) v_powers (res.2.2.2.2.2.2.2.1) (res.2.2.2.2.2.2.2.2.1) (res.2.2.2.2.2.2.2.2.2.1) (res.2.2.2.2.2.2.2.2.2.2))) res) ([.ref a_this, .int x1, .int x2] : List Value).toArray s 0 0 A) (F0 m 84 ls [.int x4_44, .ref (av 23)]) := by
            intro  ls H locs hl hw h
            have h := k0_at ej84_65 h
            refine lv_iconst (pc := 84) (v := 1) hx hb dX10_playOuter_84 (by decide) ?_
            refine lv_goto (pc := 85) (tgt := 89) hx hb dX10_playOuter_85 (by decide) ?_
            exact J89_56 1 ls _ _ (lv_sub hl [0, 1, 2, 3, 4] rfl) hw h
          refine lv_icmp_ge (pc := 65) (tgt := 84) hx hb dX10_playOuter_65 (by decide) (fun hc_66 => ?_) (fun hc_66 => ?_)
          · have h := ift hc_66 h
            exact J84_65  ls _ _ (lv_sub hl [1, 2, 3, 4, 5] rfl) hw h
          · have h := iff' hc_66 h
            refine lv_aload_n (pc := 68) hx hb dX10_playOuter_68 rfl (lv_at hl 3 rfl) ?_
            refine gf_X10_67 (pc := 69) C hw 0 rfl rfl dX10_playOuter_69 ?_
            refine lv_bipush (pc := 72) (v := 32) hx hb dX10_playOuter_72 (by decide) ?_
            refine lv_iload (pc := 74) hx hb dX10_playOuter_74 (lv_at hl 0 rfl) ?_
            refine lv_imul (pc := 76) hx hb dX10_playOuter_76 ?_
            refine lv_iload (pc := 77) hx hb dX10_playOuter_77 (lv_at hl 1 rfl) ?_
            refine lv_iadd (pc := 79) hx hb dX10_playOuter_79 ?_
            obtain ⟨hi_67, h⟩ := og_at h
            refine x_zald (pc := 80) C hw 1 rfl hi_67 dX10_playOuter_80 ?_
            refine lv_if_eq (pc := 81) (tgt := 88) hx hb dX10_playOuter_81 (by decide) (fun hc_68 => ?_) (fun hc_68 => ?_)
            · have h := ift hc_68 h
              refine lv_iconst (pc := 88) (v := 0) hx hb dX10_playOuter_88 (by decide) ?_
              exact J89_56 0 ls _ _ (lv_sub hl [1, 2, 3, 4, 5] rfl) hw h
            · have h := iff' hc_68 h
              exact J84_65  ls _ _ (lv_sub hl [1, 2, 3, 4, 5] rfl) hw h
        refine lv_icmp_ge (pc := 32) (tgt := 51) hx hb dX10_playOuter_32 (by decide) (fun hc_69 => ?_) (fun hc_69 => ?_)
        · have h := ift hc_69 h
          refine lv_iconst (pc := 51) (v := 0) hx hb dX10_playOuter_51 (by decide) ?_
          exact J52_52 0 ls _ _ (lv_sub hl [0, 1, 2, 3, 4, 5] rfl) hw h
        · have h := iff' hc_69 h
          refine lv_aload_n (pc := 35) hx hb dX10_playOuter_35 rfl (lv_at hl 3 rfl) ?_
          refine gf_X10_64 (pc := 36) C hw 0 rfl rfl dX10_playOuter_36 ?_
          refine lv_bipush (pc := 39) (v := 32) hx hb dX10_playOuter_39 (by decide) ?_
          refine lv_iload (pc := 41) hx hb dX10_playOuter_41 (lv_at hl 0 rfl) ?_
          refine lv_imul (pc := 43) hx hb dX10_playOuter_43 ?_
          refine lv_iload (pc := 44) hx hb dX10_playOuter_44 (lv_at hl 1 rfl) ?_
          refine lv_iadd (pc := 46) hx hb dX10_playOuter_46 ?_
          obtain ⟨hi_70, h⟩ := og_at h
          refine x_iald (pc := 47) C hw 2 rfl hi_70 dX10_playOuter_47 ?_
          refine lv_goto (pc := 48) (tgt := 52) hx hb dX10_playOuter_48 (by decide) ?_
          exact J52_52 (v_inners (Int32.toNatClampNeg (((32 : Int32) * x5_50) + x4_44))) ls _ _ (lv_sub hl [0, 1, 2, 3, 4, 5] rfl) hw h
  exact Lih5_48 FU 0 0 v_marked v_word ls _ _ (lv_sub hl [0, 1, 2, 3, 4] rfl) hw h
def wX10_takeFrame (cB cI cZ : ClassId) (av : Nat → Nat) (a_this : Nat) (v_thrown : Int32) (v_size : Int32) (v_begins : Int32) (v_entries : Int32) (v_length : Int32) (v_pressed : Int32) (v_streamFrames : Int32) (v_zeros : Int32) (v_level : Int32) (v_sum : Int32) (v_tail : Int32) (v_isPlayed : Int32) (v_found : Int32) (v_strange : Int32) (v_innerFails : Int32) (v_outerFails : Int32) (v_mostMarks : Int32) (v_unsure : Int32) (v_may : Int32) (v_mocks : Int32) (v_sumThen : Int32) (v_got : Nat → Int32) (v_outerMarks : Nat → Int32) (v_outers : Nat → Int32) (v_sure : Nat → Int32) : va_W := [oX10 a_this av v_thrown v_size v_begins v_entries v_length v_pressed v_streamFrames v_zeros v_level v_sum v_tail v_isPlayed v_found v_strange v_innerFails v_outerFails v_mostMarks v_unsure v_may v_mocks v_sumThen, ((av 42), .inl (cI, 11736, .inl v_got)), ((av 32), .inl (cZ, 17920, .inl v_outerMarks)), ((av 31), .inl (cI, 17920, .inl v_outers)), ((av 43), .inl (cZ, 11736, .inl v_sure))]
def fX10_takeFrame_L2 (x1 : Int32) (v_found : Int32) (v_outerMarks : Nat → Int32) (v_outers : Nat → Int32) : Nat → Int32 → Int32 → (Nat → Int32) → (Nat → Int32) → Option (Int32 × (Nat → Int32) × (Nat → Int32))
  | 0, _, _, _, _ => none
  | F2_5 + 1, x2_1, v_unsure_2, v_got_3, v_sure_4 => if (28 : Int32) ≤ x2_1 then some (v_unsure_2, v_got_3, v_sure_4) else nt1 (fX10_isCheck 0 x2_1) fun r_7 => jk (fun (v_unsure_9 : Int32) (v_got_10 : Nat → Int32) (v_sure_11 : Nat → Int32) => nm (x2_1 + 1 : Int32) fun x2_13 => fX10_takeFrame_L2 x1 v_found v_outerMarks v_outers F2_5 x2_13 v_unsure_9 v_got_10 v_sure_11) fun j132_12 => if r_7 = 0 then jk (fun (t_15 : Int32) => nt1 (fX10_byteAt x2_1) fun r_17 => nm ((((24 : Int32) * x1) + r_17) : Int32) fun x4_19 => jk (fun (t_20 : Int32) => og (ixb x4_19 11736) (nm (upd v_got_3 (Int32.toNatClampNeg x4_19) t_20) fun v_got_23 => jk (fun (t_24 : Int32) => og (ixb x4_19 11736) (nm (upd v_sure_4 (Int32.toNatClampNeg x4_19) (vp_nar .boolean t_24)) fun v_sure_27 => og (ixb x4_19 11736) (jk (fun (t_29 : Int32) => nm ((v_unsure_2 + t_29) : Int32) fun v_unsure_31 => j132_12 v_unsure_31 v_got_23 v_sure_27) fun j128_30 => if (v_sure_27 (Int32.toNatClampNeg x4_19)) = 0 then j128_30 1 else j128_30 0))) fun j107_25 => jk (j107_25 0) fun j106_33 => if v_found ≤ t_15 then j106_33 else og (ixb (((28 : Int32) * t_15) + x2_1) 17920) (if (v_outerMarks (Int32.toNatClampNeg (((28 : Int32) * t_15) + x2_1))) = 0 then j107_25 1 else j106_33))) fun j73_21 => if v_found ≤ t_15 then j73_21 0 else og (ixb (((28 : Int32) * t_15) + x2_1) 17920) (j73_21 (v_outers (Int32.toNatClampNeg (((28 : Int32) * t_15) + x2_1))))) fun j32_16 => if (12 : Int32) ≤ x2_1 then j32_16 x1 else j32_16 (x1 + (2 : Int32)) else j132_12 v_unsure_2 v_got_3 v_sure_4
def fX10_takeFrame (v_found : Int32) (v_unsure : Int32) (v_got : Nat → Int32) (v_outerMarks : Nat → Int32) (v_outers : Nat → Int32) (v_sure : Nat → Int32) (x1 : Int32) : Option (Int32 × (Nat → Int32) × (Nat → Int32)) := fX10_takeFrame_L2 x1 v_found v_outerMarks v_outers FU 0 v_unsure v_got v_sure
set_option maxHeartbeats 4000000 in
set_option maxRecDepth 100000 in
theorem ct_X10_takeFrame (l : Launch) (D : va_G) (cB cI cZ : ClassId) (tw : Nat) (av : Nat → Nat) (a_this : Nat) (v_thrown : Int32) (v_size : Int32) (v_begins : Int32) (v_entries : Int32) (v_length : Int32) (v_pressed : Int32) (v_streamFrames : Int32) (v_zeros : Int32) (v_level : Int32) (v_sum : Int32) (v_tail : Int32) (v_isPlayed : Int32) (v_found : Int32) (v_strange : Int32) (v_innerFails : Int32) (v_outerFails : Int32) (v_mostMarks : Int32) (v_unsure : Int32) (v_may : Int32) (v_mocks : Int32) (v_sumThen : Int32) (v_got : Nat → Int32) (v_outerMarks : Nat → Int32) (v_outers : Nat → Int32) (v_sure : Nat → Int32) (x1 : Int32) (res : Int32 × (Nat → Int32) × (Nat → Int32)) (h : fX10_takeFrame v_found v_unsure v_got v_outerMarks v_outers v_sure x1 = some res) : Ctr l yX10_takeFrame cX10_takeFrame 5 none (rmK 1 22) D (tyL cB cI cZ) tw [.ref a_this, .int x1] (wX10_takeFrame cB cI cZ av a_this v_thrown v_size v_begins v_entries v_length v_pressed v_streamFrames v_zeros v_level v_sum v_tail v_isPlayed v_found v_strange v_innerFails v_outerFails v_mostMarks v_unsure v_may v_mocks v_sumThen v_got v_outerMarks v_outers v_sure) (fun _ : Int32 × (Nat → Int32) × (Nat → Int32) => none) (fun res : Int32 × (Nat → Int32) × (Nat → Int32) => (wX10_takeFrame cB cI cZ av a_this v_thrown v_size v_begins v_entries v_length v_pressed v_streamFrames v_zeros v_level v_sum v_tail v_isPlayed v_found v_strange v_innerFails v_outerFails v_mostMarks (res.1) v_may v_mocks v_sumThen (res.2.1) v_outerMarks v_outers (res.2.2))) res := by
  refine ctr_of RX10 (by decide) rfl (Nat.le_of_ble_eq_true rfl) ?_
  intro p e s m below meth c A C hw ls hl
  have hx := C.1
  have hb := C.2.1
  have hl : lv_has ls 5 [(0, .ref a_this), (1, .int x1)] := hl
  unfold fX10_takeFrame at h
  refine lv_iconst (pc := 0) (v := 0) hx hb dX10_takeFrame_0 (by decide) ?_
  refine lv_istore_n (pc := 1) (lv' := [(2, .int 0), (0, .ref a_this), (1, .int x1)]) hx hb dX10_takeFrame_1 rfl hl (by decide) rfl (fun ls hl => ?_)
  have Lih2_5 : ∀ (F : Nat) (x2_1 : Int32) (v_unsure_2 : Int32) (v_got_3 : Nat → Int32) (v_sure_4 : Nat → Int32) (ls : Array Slot) (H : Heap) (locs : List Loc), lv_has ls 5 [(2, .int x2_1), (0, .ref a_this), (1, .int x1)] → Wd D A s (wX10_takeFrame cB cI cZ av a_this v_thrown v_size v_begins v_entries v_length v_pressed v_streamFrames v_zeros v_level v_sum v_tail v_isPlayed v_found v_strange v_innerFails v_outerFails v_mostMarks v_unsure_2 v_may v_mocks v_sumThen v_got_3 v_outerMarks v_outers v_sure_4) H locs → fX10_takeFrame_L2 x1 v_found v_outerMarks v_outers F x2_1 v_unsure_2 v_got_3 v_sure_4 = some res → W p l e (rmK 1 22) s m ([.ref a_this, .int x1] : List Value).toArray below meth c H locs 0 0 (MQ below (QG D (tyL cB cI cZ) A (fun _ : Int32 × (Nat → Int32) × (Nat → Int32) => none) (fun res : Int32 × (Nat → Int32) × (Nat → Int32) => (wX10_takeFrame cB cI cZ av a_this v_thrown v_size v_begins v_entries v_length v_pressed v_streamFrames v_zeros v_level v_sum v_tail v_isPlayed v_found v_strange v_innerFails v_outerFails v_mostMarks (res.1) v_may v_mocks v_sumThen (res.2.1) v_outerMarks v_outers (res.2.2))) res) ([.ref a_this, .int x1] : List Value).toArray s 0 0 A) (F0 m 2 ls []) := by
    intro F
    induction F with
    | zero => intro x2_1 v_unsure_2 v_got_3 v_sure_4 ls H locs hl hw h; rw [fX10_takeFrame_L2.eq_1] at h; cases h
    | succ F2_5 ih2_5 =>
      intro x2_1 v_unsure_2 v_got_3 v_sure_4 ls H locs hl hw h
      rw [fX10_takeFrame_L2.eq_2] at h
      refine lv_iload_n (pc := 2) hx hb dX10_takeFrame_2 rfl (lv_at hl 0 rfl) ?_
      refine lv_bipush (pc := 3) (v := 28) hx hb dX10_takeFrame_3 (by decide) ?_
      refine lv_icmp_ge (pc := 5) (tgt := 138) hx hb dX10_takeFrame_5 (by decide) (fun hc_6 => ?_) (fun hc_6 => ?_)
      · have h := ift hc_6 h
        exact x_vret (pc := 138) (v := (v_unsure_2, v_got_3, v_sure_4)) C (Option.some.inj h) rfl hw dX10_takeFrame_138
      · have h := iff' hc_6 h
        refine lv_iconst (pc := 8) (v := 0) hx hb dX10_takeFrame_8 (by decide) ?_
        refine lv_iload_n (pc := 9) hx hb dX10_takeFrame_9 rfl (lv_at hl 0 rfl) ?_
        obtain ⟨r_7, hq_8, h⟩ := nt1_at h
        refine x_callS (pc := 10) (rest := []) (stk := [.int r_7]) (wX10_takeFrame cB cI cZ av a_this v_thrown v_size v_begins v_entries v_length v_pressed v_streamFrames v_zeros v_level v_sum v_tail v_isPlayed v_found v_strange v_innerFails v_outerFails v_mostMarks v_unsure_2 v_may v_mocks v_sumThen v_got_3 v_outerMarks v_outers v_sure_4) C hw (ct_X10_isCheck l D cB cI cZ tw av 0 x2_1 r_7 hq_8.symm) cal_X10_isCheck tw_1218 [] [0, 1, 2, 3, 4] 5 [oX10 a_this av v_thrown v_size v_begins v_entries v_length v_pressed v_streamFrames v_zeros v_level v_sum v_tail v_isPlayed v_found v_strange v_innerFails v_outerFails v_mostMarks v_unsure_2 v_may v_mocks v_sumThen, ((av 42), .inl (cI, 11736, .inl v_got_3)), ((av 32), .inl (cZ, 17920, .inl v_outerMarks)), ((av 31), .inl (cI, 17920, .inl v_outers)), ((av 43), .inl (cZ, 11736, .inl v_sure_4))] rfl rfl rfl rfl rfl rfl rfl rfl rfl rfl rfl (Nat.le_of_ble_eq_true rfl) hl.1 ⟨Nat.le_of_ble_eq_true rfl, Nat.le_of_ble_eq_true rfl⟩ ⟨Nat.zero_le _, Nat.zero_le _⟩ dX10_takeFrame_10 (fun H locs hw => ?_)
        obtain ⟨j132_12, ej132_12, h⟩ := jk_at h
        have J132_12 : ∀ (v_unsure_9 : Int32) (v_got_10 : Nat → Int32) (v_sure_11 : Nat → Int32) (ls : Array Slot) (H : Heap) (locs : List Loc), lv_has ls 5 [(2, .int x2_1), (0, .ref a_this), (1, .int x1)] → Wd D A s (wX10_takeFrame cB cI cZ av a_this v_thrown v_size v_begins v_entries v_length v_pressed v_streamFrames v_zeros v_level v_sum v_tail v_isPlayed v_found v_strange v_innerFails v_outerFails v_mostMarks v_unsure_9 v_may v_mocks v_sumThen v_got_10 v_outerMarks v_outers v_sure_11) H locs → j132_12 v_unsure_9 v_got_10 v_sure_11 = some res → W p l e (rmK 1 22) s m ([.ref a_this, .int x1] : List Value).toArray below meth c H locs 0 0 (MQ below (QG D (tyL cB cI cZ) A (fun _ : Int32 × (Nat → Int32) × (Nat → Int32) => none) (fun res : Int32 × (Nat → Int32) × (Nat → Int32) => (wX10_takeFrame cB cI cZ av a_this v_thrown v_size v_begins v_entries v_length v_pressed v_streamFrames v_zeros v_level v_sum v_tail v_isPlayed v_found v_strange v_innerFails v_outerFails v_mostMarks (res.1) v_may v_mocks v_sumThen (res.2.1) v_outerMarks v_outers (res.2.2))) res) ([.ref a_this, .int x1] : List Value).toArray s 0 0 A) (F0 m 132 ls []) := by
          intro v_unsure_9 v_got_10 v_sure_11 ls H locs hl hw h
          have h := k3_at ej132_12 h
          obtain ⟨x2_13, ex2_13⟩ : ∃ y : Int32, y = x2_1 + 1 := ⟨_, rfl⟩
          have h := nm_at ex2_13 h
          refine lv_iinc (pc := 132) (v := x2_13) (lv' := [(2, .int x2_13), (0, .ref a_this), (1, .int x1)]) hx hb dX10_takeFrame_132 hl (k := 0) rfl (by rw [ex2_13]; rfl) (by decide) rfl (fun ls hl => ?_)
          refine lv_goto (pc := 135) (tgt := 2) hx hb dX10_takeFrame_135 (by decide) ?_
          exact ih2_5 x2_13 v_unsure_9 v_got_10 v_sure_11 ls _ _ (lv_sub hl [0, 1, 2] rfl) hw h
        refine lv_if_eq (pc := 13) (tgt := 19) hx hb dX10_takeFrame_13 (by decide) (fun hc_14 => ?_) (fun hc_14 => ?_)
        · have h := ift hc_14 h
          refine lv_iload_n (pc := 19) hx hb dX10_takeFrame_19 rfl (lv_at hl 0 rfl) ?_
          refine lv_bipush (pc := 20) (v := 12) hx hb dX10_takeFrame_20 (by decide) ?_
          obtain ⟨j32_16, ej32_16, h⟩ := jk_at h
          have J32_16 : ∀ (t_15 : Int32) (ls : Array Slot) (H : Heap) (locs : List Loc), lv_has ls 5 [(2, .int x2_1), (0, .ref a_this), (1, .int x1)] → Wd D A s (wX10_takeFrame cB cI cZ av a_this v_thrown v_size v_begins v_entries v_length v_pressed v_streamFrames v_zeros v_level v_sum v_tail v_isPlayed v_found v_strange v_innerFails v_outerFails v_mostMarks v_unsure_2 v_may v_mocks v_sumThen v_got_3 v_outerMarks v_outers v_sure_4) H locs → j32_16 t_15 = some res → W p l e (rmK 1 22) s m ([.ref a_this, .int x1] : List Value).toArray below meth c H locs 0 0 (MQ below (QG D (tyL cB cI cZ) A (fun _ : Int32 × (Nat → Int32) × (Nat → Int32) => none) (fun res : Int32 × (Nat → Int32) × (Nat → Int32) => (wX10_takeFrame cB cI cZ av a_this v_thrown v_size v_begins v_entries v_length v_pressed v_streamFrames v_zeros v_level v_sum v_tail v_isPlayed v_found v_strange v_innerFails v_outerFails v_mostMarks (res.1) v_may v_mocks v_sumThen (res.2.1) v_outerMarks v_outers (res.2.2))) res) ([.ref a_this, .int x1] : List Value).toArray s 0 0 A) (F0 m 32 ls [.int t_15]) := by
            intro t_15 ls H locs hl hw h
            have h := k1_at ej32_16 h
            refine lv_istore_n (pc := 32) (lv' := [(3, .int t_15), (2, .int x2_1), (0, .ref a_this), (1, .int x1)]) hx hb dX10_takeFrame_32 rfl hl (by decide) rfl (fun ls hl => ?_)
            refine lv_bipush (pc := 33) (v := 24) hx hb dX10_takeFrame_33 (by decide) ?_
            refine lv_iload_n (pc := 35) hx hb dX10_takeFrame_35 rfl (lv_at hl 3 rfl) ?_
            refine lv_imul (pc := 36) hx hb dX10_takeFrame_36 ?_
            refine lv_iload_n (pc := 37) hx hb dX10_takeFrame_37 rfl (lv_at hl 1 rfl) ?_
            obtain ⟨r_17, hq_18, h⟩ := nt1_at h
            refine x_callS (pc := 38) (rest := [.int ((24 : Int32) * x1)]) (stk := [.int r_17, .int ((24 : Int32) * x1)]) (wX10_takeFrame cB cI cZ av a_this v_thrown v_size v_begins v_entries v_length v_pressed v_streamFrames v_zeros v_level v_sum v_tail v_isPlayed v_found v_strange v_innerFails v_outerFails v_mostMarks v_unsure_2 v_may v_mocks v_sumThen v_got_3 v_outerMarks v_outers v_sure_4) C hw (ct_X10_byteAt l D cB cI cZ tw av x2_1 r_17 hq_18.symm) cal_X10_byteAt tw_1221 [] [0, 1, 2, 3, 4] 5 [oX10 a_this av v_thrown v_size v_begins v_entries v_length v_pressed v_streamFrames v_zeros v_level v_sum v_tail v_isPlayed v_found v_strange v_innerFails v_outerFails v_mostMarks v_unsure_2 v_may v_mocks v_sumThen, ((av 42), .inl (cI, 11736, .inl v_got_3)), ((av 32), .inl (cZ, 17920, .inl v_outerMarks)), ((av 31), .inl (cI, 17920, .inl v_outers)), ((av 43), .inl (cZ, 11736, .inl v_sure_4))] rfl rfl rfl rfl rfl rfl rfl rfl rfl rfl rfl (Nat.le_of_ble_eq_true rfl) hl.1 ⟨Nat.le_of_ble_eq_true rfl, Nat.le_of_ble_eq_true rfl⟩ ⟨Nat.zero_le _, Nat.zero_le _⟩ dX10_takeFrame_38 (fun H locs hw => ?_)
            refine lv_iadd (pc := 41) hx hb dX10_takeFrame_41 ?_
            refine lv_topi (pc := 42) (fun x4_19 ex4_19 => ?_)
            have h := nm_at ex4_19 h
            refine lv_istore (pc := 42) (lv' := [(4, .int x4_19), (3, .int t_15), (2, .int x2_1), (0, .ref a_this), (1, .int x1)]) hx hb dX10_takeFrame_42 hl (by decide) rfl (fun ls hl => ?_)
            refine lv_aload_n (pc := 44) hx hb dX10_takeFrame_44 rfl (lv_at hl 3 rfl) ?_
            refine gf_X10_88 (pc := 45) C hw 0 rfl rfl dX10_takeFrame_45 ?_
            refine lv_iload (pc := 48) hx hb dX10_takeFrame_48 (lv_at hl 0 rfl) ?_
            refine lv_iload_n (pc := 50) hx hb dX10_takeFrame_50 rfl (lv_at hl 1 rfl) ?_
            refine lv_aload_n (pc := 51) hx hb dX10_takeFrame_51 rfl (lv_at hl 3 rfl) ?_
            refine gf_X10_296 (pc := 52) C hw 0 rfl rfl dX10_takeFrame_52 ?_
            obtain ⟨j73_21, ej73_21, h⟩ := jk_at h
            have J73_21 : ∀ (t_20 : Int32) (ls : Array Slot) (H : Heap) (locs : List Loc), lv_has ls 5 [(4, .int x4_19), (3, .int t_15), (2, .int x2_1), (0, .ref a_this), (1, .int x1)] → Wd D A s (wX10_takeFrame cB cI cZ av a_this v_thrown v_size v_begins v_entries v_length v_pressed v_streamFrames v_zeros v_level v_sum v_tail v_isPlayed v_found v_strange v_innerFails v_outerFails v_mostMarks v_unsure_2 v_may v_mocks v_sumThen v_got_3 v_outerMarks v_outers v_sure_4) H locs → j73_21 t_20 = some res → W p l e (rmK 1 22) s m ([.ref a_this, .int x1] : List Value).toArray below meth c H locs 0 0 (MQ below (QG D (tyL cB cI cZ) A (fun _ : Int32 × (Nat → Int32) × (Nat → Int32) => none) (fun res : Int32 × (Nat → Int32) × (Nat → Int32) => (wX10_takeFrame cB cI cZ av a_this v_thrown v_size v_begins v_entries v_length v_pressed v_streamFrames v_zeros v_level v_sum v_tail v_isPlayed v_found v_strange v_innerFails v_outerFails v_mostMarks (res.1) v_may v_mocks v_sumThen (res.2.1) v_outerMarks v_outers (res.2.2))) res) ([.ref a_this, .int x1] : List Value).toArray s 0 0 A) (F0 m 73 ls [.int t_20, .int x4_19, .ref (av 42)]) := by
              intro t_20 ls H locs hl hw h
              have h := k1_at ej73_21 h
              obtain ⟨hi_22, h⟩ := og_at h
              obtain ⟨v_got_23, ev_got_23⟩ : ∃ y : Nat → Int32, y = upd v_got_3 (Int32.toNatClampNeg x4_19) t_20 := ⟨_, rfl⟩
              have h := nm_at ev_got_23 h
              refine x_iast (pc := 73) (wX10_takeFrame cB cI cZ av a_this v_thrown v_size v_begins v_entries v_length v_pressed v_streamFrames v_zeros v_level v_sum v_tail v_isPlayed v_found v_strange v_innerFails v_outerFails v_mostMarks v_unsure_2 v_may v_mocks v_sumThen v_got_23 v_outerMarks v_outers v_sure_4) C hw 1 rfl hi_22 (by rw [ev_got_23]; rfl) dX10_takeFrame_73 (fun H locs hw => ?_)
              refine lv_aload_n (pc := 74) hx hb dX10_takeFrame_74 rfl (lv_at hl 3 rfl) ?_
              refine gf_X10_91 (pc := 75) C hw 0 rfl rfl dX10_takeFrame_75 ?_
              refine lv_iload (pc := 78) hx hb dX10_takeFrame_78 (lv_at hl 0 rfl) ?_
              refine lv_iload_n (pc := 80) hx hb dX10_takeFrame_80 rfl (lv_at hl 1 rfl) ?_
              refine lv_aload_n (pc := 81) hx hb dX10_takeFrame_81 rfl (lv_at hl 3 rfl) ?_
              refine gf_X10_296 (pc := 82) C hw 0 rfl rfl dX10_takeFrame_82 ?_
              obtain ⟨j107_25, ej107_25, h⟩ := jk_at h
              have J107_25 : ∀ (t_24 : Int32) (ls : Array Slot) (H : Heap) (locs : List Loc), lv_has ls 5 [(4, .int x4_19), (2, .int x2_1), (0, .ref a_this), (1, .int x1)] → Wd D A s (wX10_takeFrame cB cI cZ av a_this v_thrown v_size v_begins v_entries v_length v_pressed v_streamFrames v_zeros v_level v_sum v_tail v_isPlayed v_found v_strange v_innerFails v_outerFails v_mostMarks v_unsure_2 v_may v_mocks v_sumThen v_got_23 v_outerMarks v_outers v_sure_4) H locs → j107_25 t_24 = some res → W p l e (rmK 1 22) s m ([.ref a_this, .int x1] : List Value).toArray below meth c H locs 0 0 (MQ below (QG D (tyL cB cI cZ) A (fun _ : Int32 × (Nat → Int32) × (Nat → Int32) => none) (fun res : Int32 × (Nat → Int32) × (Nat → Int32) => (wX10_takeFrame cB cI cZ av a_this v_thrown v_size v_begins v_entries v_length v_pressed v_streamFrames v_zeros v_level v_sum v_tail v_isPlayed v_found v_strange v_innerFails v_outerFails v_mostMarks (res.1) v_may v_mocks v_sumThen (res.2.1) v_outerMarks v_outers (res.2.2))) res) ([.ref a_this, .int x1] : List Value).toArray s 0 0 A) (F0 m 107 ls [.int t_24, .int x4_19, .ref (av 43)]) := by
                intro t_24 ls H locs hl hw h
                have h := k1_at ej107_25 h
                obtain ⟨hi_26, h⟩ := og_at h
                obtain ⟨v_sure_27, ev_sure_27⟩ : ∃ y : Nat → Int32, y = upd v_sure_4 (Int32.toNatClampNeg x4_19) (vp_nar .boolean t_24) := ⟨_, rfl⟩
                have h := nm_at ev_sure_27 h
                refine x_zast (pc := 107) (wX10_takeFrame cB cI cZ av a_this v_thrown v_size v_begins v_entries v_length v_pressed v_streamFrames v_zeros v_level v_sum v_tail v_isPlayed v_found v_strange v_innerFails v_outerFails v_mostMarks v_unsure_2 v_may v_mocks v_sumThen v_got_23 v_outerMarks v_outers v_sure_27) C hw 4 rfl hi_26 (by rw [ev_sure_27]; rfl) dX10_takeFrame_107 (fun H locs hw => ?_)
                refine lv_aload_n (pc := 108) hx hb dX10_takeFrame_108 rfl (lv_at hl 2 rfl) ?_
                refine lv_dup (pc := 109) hx hb dX10_takeFrame_109 rfl ?_
                refine gf_X10_314 (pc := 110) C hw 0 rfl rfl dX10_takeFrame_110 ?_
                refine lv_aload_n (pc := 113) hx hb dX10_takeFrame_113 rfl (lv_at hl 2 rfl) ?_
                refine gf_X10_91 (pc := 114) C hw 0 rfl rfl dX10_takeFrame_114 ?_
                refine lv_iload (pc := 117) hx hb dX10_takeFrame_117 (lv_at hl 0 rfl) ?_
                obtain ⟨hi_28, h⟩ := og_at h
                refine x_zald (pc := 119) C hw 4 rfl hi_28 dX10_takeFrame_119 ?_
                obtain ⟨j128_30, ej128_30, h⟩ := jk_at h
                have J128_30 : ∀ (t_29 : Int32) (ls : Array Slot) (H : Heap) (locs : List Loc), lv_has ls 5 [(2, .int x2_1), (0, .ref a_this), (1, .int x1)] → Wd D A s (wX10_takeFrame cB cI cZ av a_this v_thrown v_size v_begins v_entries v_length v_pressed v_streamFrames v_zeros v_level v_sum v_tail v_isPlayed v_found v_strange v_innerFails v_outerFails v_mostMarks v_unsure_2 v_may v_mocks v_sumThen v_got_23 v_outerMarks v_outers v_sure_27) H locs → j128_30 t_29 = some res → W p l e (rmK 1 22) s m ([.ref a_this, .int x1] : List Value).toArray below meth c H locs 0 0 (MQ below (QG D (tyL cB cI cZ) A (fun _ : Int32 × (Nat → Int32) × (Nat → Int32) => none) (fun res : Int32 × (Nat → Int32) × (Nat → Int32) => (wX10_takeFrame cB cI cZ av a_this v_thrown v_size v_begins v_entries v_length v_pressed v_streamFrames v_zeros v_level v_sum v_tail v_isPlayed v_found v_strange v_innerFails v_outerFails v_mostMarks (res.1) v_may v_mocks v_sumThen (res.2.1) v_outerMarks v_outers (res.2.2))) res) ([.ref a_this, .int x1] : List Value).toArray s 0 0 A) (F0 m 128 ls [.int t_29, .int v_unsure_2, .ref a_this]) := by
                  intro t_29 ls H locs hl hw h
                  have h := k1_at ej128_30 h
                  refine lv_iadd (pc := 128) hx hb dX10_takeFrame_128 ?_
                  refine lv_topi (pc := 129) (fun v_unsure_31 ev_unsure_31 => ?_)
                  have h := nm_at ev_unsure_31 h
                  refine pf_X10_314 (pc := 129) (wX10_takeFrame cB cI cZ av a_this v_thrown v_size v_begins v_entries v_length v_pressed v_streamFrames v_zeros v_level v_sum v_tail v_isPlayed v_found v_strange v_innerFails v_outerFails v_mostMarks v_unsure_31 v_may v_mocks v_sumThen v_got_23 v_outerMarks v_outers v_sure_27) C hw 0 rfl rfl rfl rfl (Nat.le_of_ble_eq_true rfl) dX10_takeFrame_129 (fun H locs hw => ?_)
                  exact J132_12 v_unsure_31 v_got_23 v_sure_27 ls _ _ (lv_sub hl [0, 1, 2] rfl) hw h
                refine lv_if_eq (pc := 120) (tgt := 127) hx hb dX10_takeFrame_120 (by decide) (fun hc_32 => ?_) (fun hc_32 => ?_)
                · have h := ift hc_32 h
                  refine lv_iconst (pc := 127) (v := 1) hx hb dX10_takeFrame_127 (by decide) ?_
                  exact J128_30 1 ls _ _ (lv_sub hl [1, 2, 3] rfl) hw h
                · have h := iff' hc_32 h
                  refine lv_iconst (pc := 123) (v := 0) hx hb dX10_takeFrame_123 (by decide) ?_
                  refine lv_goto (pc := 124) (tgt := 128) hx hb dX10_takeFrame_124 (by decide) ?_
                  exact J128_30 0 ls _ _ (lv_sub hl [1, 2, 3] rfl) hw h
              obtain ⟨j106_33, ej106_33, h⟩ := jk_at h
              have J106_33 : ∀  (ls : Array Slot) (H : Heap) (locs : List Loc), lv_has ls 5 [(4, .int x4_19), (2, .int x2_1), (0, .ref a_this), (1, .int x1)] → Wd D A s (wX10_takeFrame cB cI cZ av a_this v_thrown v_size v_begins v_entries v_length v_pressed v_streamFrames v_zeros v_level v_sum v_tail v_isPlayed v_found v_strange v_innerFails v_outerFails v_mostMarks v_unsure_2 v_may v_mocks v_sumThen v_got_23 v_outerMarks v_outers v_sure_4) H locs → j106_33 = some res → W p l e (rmK 1 22) s m ([.ref a_this, .int x1] : List Value).toArray below meth c H locs 0 0 (MQ below (QG D (tyL cB cI cZ) A (fun _ : Int32 × (Nat → Int32) × (Nat → Int32) => none) (fun res : Int32 × (Nat → Int32) × (Nat → Int32) => (wX10_takeFrame cB cI cZ av a_this v_thrown v_size v_begins v_entries v_length v_pressed v_streamFrames v_zeros v_level v_sum v_tail v_isPlayed v_found v_strange v_innerFails v_outerFails v_mostMarks (res.1) v_may v_mocks v_sumThen (res.2.1) v_outerMarks v_outers (res.2.2))) res) ([.ref a_this, .int x1] : List Value).toArray s 0 0 A) (F0 m 106 ls [.int x4_19, .ref (av 43)]) := by
                intro  ls H locs hl hw h
                have h := k0_at ej106_33 h
                refine lv_iconst (pc := 106) (v := 0) hx hb dX10_takeFrame_106 (by decide) ?_
                exact J107_25 0 ls _ _ (lv_sub hl [0, 1, 2, 3] rfl) hw h
              refine lv_icmp_ge (pc := 85) (tgt := 106) hx hb dX10_takeFrame_85 (by decide) (fun hc_34 => ?_) (fun hc_34 => ?_)
              · have h := ift hc_34 h
                exact J106_33  ls _ _ (lv_sub hl [0, 2, 3, 4] rfl) hw h
              · have h := iff' hc_34 h
                refine lv_aload_n (pc := 88) hx hb dX10_takeFrame_88 rfl (lv_at hl 3 rfl) ?_
                refine gf_X10_76 (pc := 89) C hw 0 rfl rfl dX10_takeFrame_89 ?_
                refine lv_bipush (pc := 92) (v := 28) hx hb dX10_takeFrame_92 (by decide) ?_
                refine lv_iload_n (pc := 94) hx hb dX10_takeFrame_94 rfl (lv_at hl 1 rfl) ?_
                refine lv_imul (pc := 95) hx hb dX10_takeFrame_95 ?_
                refine lv_iload_n (pc := 96) hx hb dX10_takeFrame_96 rfl (lv_at hl 2 rfl) ?_
                refine lv_iadd (pc := 97) hx hb dX10_takeFrame_97 ?_
                obtain ⟨hi_35, h⟩ := og_at h
                refine x_zald (pc := 98) C hw 2 rfl hi_35 dX10_takeFrame_98 ?_
                refine lv_if_ne (pc := 99) (tgt := 106) hx hb dX10_takeFrame_99 (by decide) (fun hc_36 => ?_) (fun hc_36 => ?_)
                · have h := iff' hc_36 h
                  exact J106_33  ls _ _ (lv_sub hl [0, 2, 3, 4] rfl) hw h
                · have h := ift hc_36 h
                  refine lv_iconst (pc := 102) (v := 1) hx hb dX10_takeFrame_102 (by decide) ?_
                  refine lv_goto (pc := 103) (tgt := 107) hx hb dX10_takeFrame_103 (by decide) ?_
                  exact J107_25 1 ls _ _ (lv_sub hl [0, 2, 3, 4] rfl) hw h
            refine lv_icmp_ge (pc := 55) (tgt := 72) hx hb dX10_takeFrame_55 (by decide) (fun hc_37 => ?_) (fun hc_37 => ?_)
            · have h := ift hc_37 h
              refine lv_iconst (pc := 72) (v := 0) hx hb dX10_takeFrame_72 (by decide) ?_
              exact J73_21 0 ls _ _ (lv_sub hl [0, 1, 2, 3, 4] rfl) hw h
            · have h := iff' hc_37 h
              refine lv_aload_n (pc := 58) hx hb dX10_takeFrame_58 rfl (lv_at hl 3 rfl) ?_
              refine gf_X10_73 (pc := 59) C hw 0 rfl rfl dX10_takeFrame_59 ?_
              refine lv_bipush (pc := 62) (v := 28) hx hb dX10_takeFrame_62 (by decide) ?_
              refine lv_iload_n (pc := 64) hx hb dX10_takeFrame_64 rfl (lv_at hl 1 rfl) ?_
              refine lv_imul (pc := 65) hx hb dX10_takeFrame_65 ?_
              refine lv_iload_n (pc := 66) hx hb dX10_takeFrame_66 rfl (lv_at hl 2 rfl) ?_
              refine lv_iadd (pc := 67) hx hb dX10_takeFrame_67 ?_
              obtain ⟨hi_38, h⟩ := og_at h
              refine x_iald (pc := 68) C hw 3 rfl hi_38 dX10_takeFrame_68 ?_
              refine lv_goto (pc := 69) (tgt := 73) hx hb dX10_takeFrame_69 (by decide) ?_
              exact J73_21 (v_outers (Int32.toNatClampNeg (((28 : Int32) * t_15) + x2_1))) ls _ _ (lv_sub hl [0, 1, 2, 3, 4] rfl) hw h
          refine lv_icmp_ge (pc := 22) (tgt := 31) hx hb dX10_takeFrame_22 (by decide) (fun hc_39 => ?_) (fun hc_39 => ?_)
          · have h := ift hc_39 h
            refine lv_iload_n (pc := 31) hx hb dX10_takeFrame_31 rfl (lv_at hl 2 rfl) ?_
            exact J32_16 x1 ls _ _ (lv_sub hl [0, 1, 2] rfl) hw h
          · have h := iff' hc_39 h
            refine lv_iload_n (pc := 25) hx hb dX10_takeFrame_25 rfl (lv_at hl 2 rfl) ?_
            refine lv_iconst (pc := 26) (v := 2) hx hb dX10_takeFrame_26 (by decide) ?_
            refine lv_iadd (pc := 27) hx hb dX10_takeFrame_27 ?_
            refine lv_goto (pc := 28) (tgt := 32) hx hb dX10_takeFrame_28 (by decide) ?_
            exact J32_16 (x1 + (2 : Int32)) ls _ _ (lv_sub hl [0, 1, 2] rfl) hw h
        · have h := iff' hc_14 h
          refine lv_goto (pc := 16) (tgt := 132) hx hb dX10_takeFrame_16 (by decide) ?_
          exact J132_12 v_unsure_2 v_got_3 v_sure_4 ls _ _ (lv_sub hl [0, 1, 2] rfl) hw h
  exact Lih2_5 FU 0 v_unsure v_got v_sure ls _ _ (lv_sub hl [0, 1, 2] rfl) hw h
def wX10_play (cB cI cZ : ClassId) (av : Nat → Nat) (a_this : Nat) (v_thrown : Int32) (v_size : Int32) (v_begins : Int32) (v_entries : Int32) (v_length : Int32) (v_pressed : Int32) (v_streamFrames : Int32) (v_zeros : Int32) (v_level : Int32) (v_sum : Int32) (v_tail : Int32) (v_isPlayed : Int32) (v_found : Int32) (v_strange : Int32) (v_innerFails : Int32) (v_outerFails : Int32) (v_mostMarks : Int32) (v_unsure : Int32) (v_may : Int32) (v_mocks : Int32) (v_sumThen : Int32) (v_beside : Nat → Int32) (v_bits : Nat → Int32) (v_bytesOf : Nat → Int32) (v_foundAt : Nat → Int32) (v_got : Nat → Int32) (v_innerMarks : Nat → Int32) (v_innerTold : Nat → Int32) (v_inners : Nat → Int32) (v_logs : Nat → Int32) (v_marked : Nat → Int32) (v_outerMarks : Nat → Int32) (v_outerTold : Nat → Int32) (v_outers : Nat → Int32) (v_places : Nat → Int32) (v_powers : Nat → Int32) (v_rows : Nat → Int32) (v_sure : Nat → Int32) (v_syndromes : Nat → Int32) (v_values : Nat → Int32) (v_word : Nat → Int32) : va_W := [oX10 a_this av v_thrown v_size v_begins v_entries v_length v_pressed v_streamFrames v_zeros v_level v_sum v_tail v_isPlayed v_found v_strange v_innerFails v_outerFails v_mostMarks v_unsure v_may v_mocks v_sumThen, ((av 37), .inl (cI, 640, .inl v_beside)), ((av 13), .inl (cB, 360000, .inl v_bits)), ((av 2), .inl (cI, 16384, .inl v_bytesOf)), ((av 36), .inl (cI, 640, .inl v_foundAt)), ((av 42), .inl (cI, 11736, .inl v_got)), ((av 29), .inl (cZ, 20480, .inl v_innerMarks)), ((av 30), .inl (cI, 640, .inl v_innerTold)), ((av 28), .inl (cI, 20480, .inl v_inners)), ((av 4), .inl (cI, 256, .inl v_logs)), ((av 23), .inl (cZ, 32, .inl v_marked)), ((av 32), .inl (cZ, 17920, .inl v_outerMarks)), ((av 33), .inl (cI, 640, .inl v_outerTold)), ((av 31), .inl (cI, 17920, .inl v_outers)), ((av 25), .inl (cI, 4, .inl v_places)), ((av 3), .inl (cI, 512, .inl v_powers)), ((av 27), .inl (cI, 20, .inl v_rows)), ((av 43), .inl (cZ, 11736, .inl v_sure)), ((av 24), .inl (cI, 4, .inl v_syndromes)), ((av 26), .inl (cI, 4, .inl v_values)), ((av 22), .inl (cI, 32, .inl v_word))]
def fX10_play_L216 (v_streamFrames : Int32) (v_found_11 : Int32) (v_innerFails_17 : Int32) (v_mostMarks_29 : Int32) (v_outerFails_28 : Int32) (v_strange_15 : Int32) (v_beside_12 : Nat → Int32) (v_foundAt_13 : Nat → Int32) (v_innerMarks_18 : Nat → Int32) (v_innerTold_19 : Nat → Int32) (v_inners_20 : Nat → Int32) (v_marked_30 : Nat → Int32) (v_outerMarks_31 : Nat → Int32) (v_outerTold_32 : Nat → Int32) (v_outers_33 : Nat → Int32) (v_places_34 : Nat → Int32) (v_rows_35 : Nat → Int32) (v_syndromes_36 : Nat → Int32) (v_values_37 : Nat → Int32) (v_word_38 : Nat → Int32) : Nat → Int32 → Int32 → (Nat → Int32) → (Nat → Int32) → Option (Int32 × Int32 × Int32 × Int32 × Int32 × Int32 × Int32 × Int32 × Int32 × (Nat → Int32) × (Nat → Int32) × (Nat → Int32) × (Nat → Int32) × (Nat → Int32) × (Nat → Int32) × (Nat → Int32) × (Nat → Int32) × (Nat → Int32) × (Nat → Int32) × (Nat → Int32) × (Nat → Int32) × (Nat → Int32) × (Nat → Int32) × (Nat → Int32) × (Nat → Int32))
  | 0, _, _, _, _ => none
  | F216_44 + 1, x4_40, v_unsure_41, v_got_42, v_sure_43 => if v_streamFrames ≤ x4_40 then some (v_unsure_41, v_found_11, v_innerFails_17, 1, v_mostMarks_29, v_outerFails_28, v_strange_15, 0, v_unsure_41, v_beside_12, v_foundAt_13, v_got_42, v_innerMarks_18, v_innerTold_19, v_inners_20, v_marked_30, v_outerMarks_31, v_outerTold_32, v_outers_33, v_places_34, v_rows_35, v_sure_43, v_syndromes_36, v_values_37, v_word_38) else ob3 (fX10_takeFrame v_found_11 v_unsure_41 v_got_42 v_outerMarks_31 v_outers_33 v_sure_43 x4_40) fun v_unsure_46 v_got_47 v_sure_48 => nm (x4_40 + 1 : Int32) fun x4_50 => fX10_play_L216 v_streamFrames v_found_11 v_innerFails_17 v_mostMarks_29 v_outerFails_28 v_strange_15 v_beside_12 v_foundAt_13 v_innerMarks_18 v_innerTold_19 v_inners_20 v_marked_30 v_outerMarks_31 v_outerTold_32 v_outers_33 v_places_34 v_rows_35 v_syndromes_36 v_values_37 v_word_38 F216_44 x4_50 v_unsure_46 v_got_47 v_sure_48
def fX10_play_L191 (v_found_11 : Int32) (j213_39 : Int32 → Int32 → (Nat → Int32) → (Nat → Int32) → (Nat → Int32) → (Nat → Int32) → (Nat → Int32) → (Nat → Int32) → (Nat → Int32) → (Nat → Int32) → (Nat → Int32) → Option (Int32 × Int32 × Int32 × Int32 × Int32 × Int32 × Int32 × Int32 × Int32 × (Nat → Int32) × (Nat → Int32) × (Nat → Int32) × (Nat → Int32) × (Nat → Int32) × (Nat → Int32) × (Nat → Int32) × (Nat → Int32) × (Nat → Int32) × (Nat → Int32) × (Nat → Int32) × (Nat → Int32) × (Nat → Int32) × (Nat → Int32) × (Nat → Int32) × (Nat → Int32))) (v_innerMarks_18 : Nat → Int32) (v_inners_20 : Nat → Int32) (v_logs : Nat → Int32) (v_powers : Nat → Int32) (x2 : Int32) : Nat → Int32 → Int32 → Int32 → (Nat → Int32) → (Nat → Int32) → (Nat → Int32) → (Nat → Int32) → (Nat → Int32) → (Nat → Int32) → (Nat → Int32) → (Nat → Int32) → (Nat → Int32) → Option (Int32 × Int32 × Int32 × Int32 × Int32 × Int32 × Int32 × Int32 × Int32 × (Nat → Int32) × (Nat → Int32) × (Nat → Int32) × (Nat → Int32) × (Nat → Int32) × (Nat → Int32) × (Nat → Int32) × (Nat → Int32) × (Nat → Int32) × (Nat → Int32) × (Nat → Int32) × (Nat → Int32) × (Nat → Int32) × (Nat → Int32) × (Nat → Int32) × (Nat → Int32))
  | 0, _, _, _, _, _, _, _, _, _, _, _, _ => none
  | F191_63 + 1, x4_51, v_outerFails_52, v_mostMarks_53, v_marked_54, v_outerMarks_55, v_outerTold_56, v_outers_57, v_places_58, v_rows_59, v_syndromes_60, v_values_61, v_word_62 => if v_found_11 ≤ x4_51 then j213_39 v_outerFails_52 v_mostMarks_53 v_marked_54 v_outerMarks_55 v_outerTold_56 v_outers_57 v_places_58 v_rows_59 v_syndromes_60 v_values_61 v_word_62 else ob11 (fX10_playOuter v_found_11 v_mostMarks_53 v_outerFails_52 v_innerMarks_18 v_inners_20 v_logs v_marked_54 v_outerMarks_55 v_outerTold_56 v_outers_57 v_places_58 v_powers v_rows_59 v_syndromes_60 v_values_61 v_word_62 x4_51 x2) fun v_mostMarks_65 v_outerFails_66 v_marked_67 v_outerMarks_68 v_outerTold_69 v_outers_70 v_places_71 v_rows_72 v_syndromes_73 v_values_74 v_word_75 => nm (x4_51 + 1 : Int32) fun x4_77 => fX10_play_L191 v_found_11 j213_39 v_innerMarks_18 v_inners_20 v_logs v_powers x2 F191_63 x4_77 v_outerFails_66 v_mostMarks_65 v_marked_67 v_outerMarks_68 v_outerTold_69 v_outers_70 v_places_71 v_rows_72 v_syndromes_73 v_values_74 v_word_75
def fX10_play_L166 (v_found_11 : Int32) (j188_27 : Int32 → (Nat → Int32) → (Nat → Int32) → (Nat → Int32) → (Nat → Int32) → (Nat → Int32) → (Nat → Int32) → (Nat → Int32) → (Nat → Int32) → (Nat → Int32) → Option (Int32 × Int32 × Int32 × Int32 × Int32 × Int32 × Int32 × Int32 × Int32 × (Nat → Int32) × (Nat → Int32) × (Nat → Int32) × (Nat → Int32) × (Nat → Int32) × (Nat → Int32) × (Nat → Int32) × (Nat → Int32) × (Nat → Int32) × (Nat → Int32) × (Nat → Int32) × (Nat → Int32) × (Nat → Int32) × (Nat → Int32) × (Nat → Int32) × (Nat → Int32))) (v_length : Int32) (v_bits : Nat → Int32) (v_bytesOf : Nat → Int32) (v_foundAt_13 : Nat → Int32) (v_logs : Nat → Int32) (v_powers : Nat → Int32) (x1 : Int32) : Nat → Int32 → Int32 → (Nat → Int32) → (Nat → Int32) → (Nat → Int32) → (Nat → Int32) → (Nat → Int32) → (Nat → Int32) → (Nat → Int32) → (Nat → Int32) → (Nat → Int32) → Option (Int32 × Int32 × Int32 × Int32 × Int32 × Int32 × Int32 × Int32 × Int32 × (Nat → Int32) × (Nat → Int32) × (Nat → Int32) × (Nat → Int32) × (Nat → Int32) × (Nat → Int32) × (Nat → Int32) × (Nat → Int32) × (Nat → Int32) × (Nat → Int32) × (Nat → Int32) × (Nat → Int32) × (Nat → Int32) × (Nat → Int32) × (Nat → Int32) × (Nat → Int32))
  | 0, _, _, _, _, _, _, _, _, _, _, _ => none
  | F166_89 + 1, x4_78, v_innerFails_79, v_innerMarks_80, v_innerTold_81, v_inners_82, v_marked_83, v_places_84, v_rows_85, v_syndromes_86, v_values_87, v_word_88 => if v_found_11 ≤ x4_78 then j188_27 v_innerFails_79 v_innerMarks_80 v_innerTold_81 v_inners_82 v_marked_83 v_places_84 v_rows_85 v_syndromes_86 v_values_87 v_word_88 else ob10 (fX10_playInner v_found_11 v_innerFails_79 v_length v_bits v_bytesOf v_foundAt_13 v_innerMarks_80 v_innerTold_81 v_inners_82 v_logs v_marked_83 v_places_84 v_powers v_rows_85 v_syndromes_86 v_values_87 v_word_88 x4_78 x1) fun v_innerFails_91 v_innerMarks_92 v_innerTold_93 v_inners_94 v_marked_95 v_places_96 v_rows_97 v_syndromes_98 v_values_99 v_word_100 => nm (x4_78 + 1 : Int32) fun x4_102 => fX10_play_L166 v_found_11 j188_27 v_length v_bits v_bytesOf v_foundAt_13 v_logs v_powers x1 F166_89 x4_102 v_innerFails_91 v_innerMarks_92 v_innerTold_93 v_inners_94 v_marked_95 v_places_96 v_rows_97 v_syndromes_98 v_values_99 v_word_100
def fX10_play_L100 (j157_108 : Int32 → Option (Int32 × Int32 × Int32 × Int32 × Int32 × Int32 × Int32 × Int32 × Int32 × (Nat → Int32) × (Nat → Int32) × (Nat → Int32) × (Nat → Int32) × (Nat → Int32) × (Nat → Int32) × (Nat → Int32) × (Nat → Int32) × (Nat → Int32) × (Nat → Int32) × (Nat → Int32) × (Nat → Int32) × (Nat → Int32) × (Nat → Int32) × (Nat → Int32) × (Nat → Int32))) (x4_103 : Int32) (v_length : Int32) (v_bits : Nat → Int32) (v_foundAt_13 : Nat → Int32) (v_bytesOf : Nat → Int32) : Nat → Int32 → Int32 → Option (Int32 × Int32 × Int32 × Int32 × Int32 × Int32 × Int32 × Int32 × Int32 × (Nat → Int32) × (Nat → Int32) × (Nat → Int32) × (Nat → Int32) × (Nat → Int32) × (Nat → Int32) × (Nat → Int32) × (Nat → Int32) × (Nat → Int32) × (Nat → Int32) × (Nat → Int32) × (Nat → Int32) × (Nat → Int32) × (Nat → Int32) × (Nat → Int32) × (Nat → Int32))
  | 0, _, _ => none
  | F100_112 + 1, x5_110, v_strange_111 => if (32 : Int32) ≤ x5_110 then j157_108 v_strange_111 else og (ixb x4_103 640) (ob1 (fX10_taken v_length v_bits (((v_foundAt_13 (Int32.toNatClampNeg x4_103)) + (44 : Int32)) + ((17 : Int32) * x5_110)) 14) fun r_115 => og (ixb r_115 16384) (jk (fun (t_118 : Int32) => nm ((v_strange_111 + t_118) : Int32) fun v_strange_120 => nm (x5_110 + 1 : Int32) fun x5_121 => fX10_play_L100 j157_108 x4_103 v_length v_bits v_foundAt_13 v_bytesOf F100_112 x5_121 v_strange_120) fun j147_119 => if 0 ≤ (v_bytesOf (Int32.toNatClampNeg r_115)) then j147_119 0 else j147_119 1))
def fX10_play_L88 (v_found_11 : Int32) (j163_16 : Int32 → Option (Int32 × Int32 × Int32 × Int32 × Int32 × Int32 × Int32 × Int32 × Int32 × (Nat → Int32) × (Nat → Int32) × (Nat → Int32) × (Nat → Int32) × (Nat → Int32) × (Nat → Int32) × (Nat → Int32) × (Nat → Int32) × (Nat → Int32) × (Nat → Int32) × (Nat → Int32) × (Nat → Int32) × (Nat → Int32) × (Nat → Int32) × (Nat → Int32) × (Nat → Int32))) (v_length : Int32) (v_bits : Nat → Int32) (v_foundAt_13 : Nat → Int32) (v_bytesOf : Nat → Int32) : Nat → Int32 → Int32 → Option (Int32 × Int32 × Int32 × Int32 × Int32 × Int32 × Int32 × Int32 × Int32 × (Nat → Int32) × (Nat → Int32) × (Nat → Int32) × (Nat → Int32) × (Nat → Int32) × (Nat → Int32) × (Nat → Int32) × (Nat → Int32) × (Nat → Int32) × (Nat → Int32) × (Nat → Int32) × (Nat → Int32) × (Nat → Int32) × (Nat → Int32) × (Nat → Int32) × (Nat → Int32))
  | 0, _, _ => none
  | F88_105 + 1, x4_103, v_strange_104 => if v_found_11 ≤ x4_103 then j163_16 v_strange_104 else jk (fun (v_strange_107 : Int32) => nm (x4_103 + 1 : Int32) fun x4_109 => fX10_play_L88 v_found_11 j163_16 v_length v_bits v_foundAt_13 v_bytesOf F88_105 x4_109 v_strange_107) fun j157_108 => fX10_play_L100 j157_108 x4_103 v_length v_bits v_foundAt_13 v_bytesOf FU 0 v_strange_104
def fX10_play (v_found : Int32) (v_innerFails : Int32) (v_isPlayed : Int32) (v_length : Int32) (v_mostMarks : Int32) (v_outerFails : Int32) (v_pressed : Int32) (v_strange : Int32) (v_streamFrames : Int32) (v_thrown : Int32) (v_unsure : Int32) (v_beside : Nat → Int32) (v_bits : Nat → Int32) (v_bytesOf : Nat → Int32) (v_foundAt : Nat → Int32) (v_got : Nat → Int32) (v_innerMarks : Nat → Int32) (v_innerTold : Nat → Int32) (v_inners : Nat → Int32) (v_logs : Nat → Int32) (v_marked : Nat → Int32) (v_outerMarks : Nat → Int32) (v_outerTold : Nat → Int32) (v_outers : Nat → Int32) (v_places : Nat → Int32) (v_powers : Nat → Int32) (v_rows : Nat → Int32) (v_sure : Nat → Int32) (v_syndromes : Nat → Int32) (v_values : Nat → Int32) (v_word : Nat → Int32) (x1 : Int32) (x2 : Int32) (x3 : Int32) : Option (Int32 × Int32 × Int32 × Int32 × Int32 × Int32 × Int32 × Int32 × Int32 × (Nat → Int32) × (Nat → Int32) × (Nat → Int32) × (Nat → Int32) × (Nat → Int32) × (Nat → Int32) × (Nat → Int32) × (Nat → Int32) × (Nat → Int32) × (Nat → Int32) × (Nat → Int32) × (Nat → Int32) × (Nat → Int32) × (Nat → Int32) × (Nat → Int32) × (Nat → Int32)) := if v_pressed = 0 then some ((-1), v_found, v_innerFails, v_isPlayed, v_mostMarks, v_outerFails, v_strange, 0, v_unsure, v_beside, v_foundAt, v_got, v_innerMarks, v_innerTold, v_inners, v_marked, v_outerMarks, v_outerTold, v_outers, v_places, v_rows, v_sure, v_syndromes, v_values, v_word) else nt1 (fX10_in (Int32.toInt64 x1) 0 2) fun r_2 => if r_2 = 0 then some ((-1), v_found, v_innerFails, v_isPlayed, v_mostMarks, v_outerFails, v_strange, 0, v_unsure, v_beside, v_foundAt, v_got, v_innerMarks, v_innerTold, v_inners, v_marked, v_outerMarks, v_outerTold, v_outers, v_places, v_rows, v_sure, v_syndromes, v_values, v_word) else nt1 (fX10_in (Int32.toInt64 x2) 0 2) fun r_5 => if r_5 = 0 then some ((-1), v_found, v_innerFails, v_isPlayed, v_mostMarks, v_outerFails, v_strange, 0, v_unsure, v_beside, v_foundAt, v_got, v_innerMarks, v_innerTold, v_inners, v_marked, v_outerMarks, v_outerTold, v_outers, v_places, v_rows, v_sure, v_syndromes, v_values, v_word) else nt1 (fX10_in (Int32.toInt64 x3) 0 20) fun r_8 => if r_8 = 0 then some ((-1), v_found, v_innerFails, v_isPlayed, v_mostMarks, v_outerFails, v_strange, 0, v_unsure, v_beside, v_foundAt, v_got, v_innerMarks, v_innerTold, v_inners, v_marked, v_outerMarks, v_outerTold, v_outers, v_places, v_rows, v_sure, v_syndromes, v_values, v_word) else ob3 (fX10_findFrames v_found v_length v_beside v_bits v_foundAt x3) fun v_found_11 v_beside_12 v_foundAt_13 => jk (fun (v_strange_15 : Int32) => jk (fun (v_innerFails_17 : Int32) (v_innerMarks_18 : Nat → Int32) (v_innerTold_19 : Nat → Int32) (v_inners_20 : Nat → Int32) (v_marked_21 : Nat → Int32) (v_places_22 : Nat → Int32) (v_rows_23 : Nat → Int32) (v_syndromes_24 : Nat → Int32) (v_values_25 : Nat → Int32) (v_word_26 : Nat → Int32) => jk (fun (v_outerFails_28 : Int32) (v_mostMarks_29 : Int32) (v_marked_30 : Nat → Int32) (v_outerMarks_31 : Nat → Int32) (v_outerTold_32 : Nat → Int32) (v_outers_33 : Nat → Int32) (v_places_34 : Nat → Int32) (v_rows_35 : Nat → Int32) (v_syndromes_36 : Nat → Int32) (v_values_37 : Nat → Int32) (v_word_38 : Nat → Int32) => fX10_play_L216 v_streamFrames v_found_11 v_innerFails_17 v_mostMarks_29 v_outerFails_28 v_strange_15 v_beside_12 v_foundAt_13 v_innerMarks_18 v_innerTold_19 v_inners_20 v_marked_30 v_outerMarks_31 v_outerTold_32 v_outers_33 v_places_34 v_rows_35 v_syndromes_36 v_values_37 v_word_38 FU 0 0 v_got v_sure) fun j213_39 => fX10_play_L191 v_found_11 j213_39 v_innerMarks_18 v_inners_20 v_logs v_powers x2 FU 0 0 0 v_marked_21 v_outerMarks v_outerTold v_outers v_places_22 v_rows_23 v_syndromes_24 v_values_25 v_word_26) fun j188_27 => fX10_play_L166 v_found_11 j188_27 v_length v_bits v_bytesOf v_foundAt_13 v_logs v_powers x1 FU 0 0 v_innerMarks v_innerTold v_inners v_marked v_places v_rows v_syndromes v_values v_word) fun j163_16 => fX10_play_L88 v_found_11 j163_16 v_length v_bits v_foundAt_13 v_bytesOf FU 0 0
set_option maxHeartbeats 4000000 in
set_option maxRecDepth 100000 in
theorem ct_X10_play (l : Launch) (D : va_G) (cB cI cZ : ClassId) (tw : Nat) (av : Nat → Nat) (a_this : Nat) (v_thrown : Int32) (v_size : Int32) (v_begins : Int32) (v_entries : Int32) (v_length : Int32) (v_pressed : Int32) (v_streamFrames : Int32) (v_zeros : Int32) (v_level : Int32) (v_sum : Int32) (v_tail : Int32) (v_isPlayed : Int32) (v_found : Int32) (v_strange : Int32) (v_innerFails : Int32) (v_outerFails : Int32) (v_mostMarks : Int32) (v_unsure : Int32) (v_may : Int32) (v_mocks : Int32) (v_sumThen : Int32) (v_beside : Nat → Int32) (v_bits : Nat → Int32) (v_bytesOf : Nat → Int32) (v_foundAt : Nat → Int32) (v_got : Nat → Int32) (v_innerMarks : Nat → Int32) (v_innerTold : Nat → Int32) (v_inners : Nat → Int32) (v_logs : Nat → Int32) (v_marked : Nat → Int32) (v_outerMarks : Nat → Int32) (v_outerTold : Nat → Int32) (v_outers : Nat → Int32) (v_places : Nat → Int32) (v_powers : Nat → Int32) (v_rows : Nat → Int32) (v_sure : Nat → Int32) (v_syndromes : Nat → Int32) (v_values : Nat → Int32) (v_word : Nat → Int32) (x1 : Int32) (x2 : Int32) (x3 : Int32) (res : Int32 × Int32 × Int32 × Int32 × Int32 × Int32 × Int32 × Int32 × Int32 × (Nat → Int32) × (Nat → Int32) × (Nat → Int32) × (Nat → Int32) × (Nat → Int32) × (Nat → Int32) × (Nat → Int32) × (Nat → Int32) × (Nat → Int32) × (Nat → Int32) × (Nat → Int32) × (Nat → Int32) × (Nat → Int32) × (Nat → Int32) × (Nat → Int32) × (Nat → Int32)) (h : fX10_play v_found v_innerFails v_isPlayed v_length v_mostMarks v_outerFails v_pressed v_strange v_streamFrames v_thrown v_unsure v_beside v_bits v_bytesOf v_foundAt v_got v_innerMarks v_innerTold v_inners v_logs v_marked v_outerMarks v_outerTold v_outers v_places v_powers v_rows v_sure v_syndromes v_values v_word x1 x2 x3 = some res) : Ctr l yX10_play cX10_play 6 (some .int) (rmK 5 112) D (tyL cB cI cZ) tw [.ref a_this, .int x1, .int x2, .int x3] (wX10_play cB cI cZ av a_this v_thrown v_size v_begins v_entries v_length v_pressed v_streamFrames v_zeros v_level v_sum v_tail v_isPlayed v_found v_strange v_innerFails v_outerFails v_mostMarks v_unsure v_may v_mocks v_sumThen v_beside v_bits v_bytesOf v_foundAt v_got v_innerMarks v_innerTold v_inners v_logs v_marked v_outerMarks v_outerTold v_outers v_places v_powers v_rows v_sure v_syndromes v_values v_word) (fun res : Int32 × Int32 × Int32 × Int32 × Int32 × Int32 × Int32 × Int32 × Int32 × (Nat → Int32) × (Nat → Int32) × (Nat → Int32) × (Nat → Int32) × (Nat → Int32) × (Nat → Int32) × (Nat → Int32) × (Nat → Int32) × (Nat → Int32) × (Nat → Int32) × (Nat → Int32) × (Nat → Int32) × (Nat → Int32) × (Nat → Int32) × (Nat → Int32) × (Nat → Int32) => some (.int res.1)) (fun res : Int32 × Int32 × Int32 × Int32 × Int32 × Int32 × Int32 × Int32 × Int32 × (Nat → Int32) × (Nat → Int32) × (Nat → Int32) × (Nat → Int32) × (Nat → Int32) × (Nat → Int32) × (Nat → Int32) × (Nat → Int32) × (Nat → Int32) × (Nat → Int32) × (Nat → Int32) × (Nat → Int32) × (Nat → Int32) × (Nat → Int32) × (Nat → Int32) × (Nat → Int32) => (wX10_play cB cI cZ av a_this (res.2.2.2.2.2.2.2.1) v_size v_begins v_entries v_length v_pressed v_streamFrames v_zeros v_level v_sum v_tail (res.2.2.2.1) (res.2.1) (res.2.2.2.2.2.2.1) (res.2.2.1) (res.2.2.2.2.2.1) (res.2.2.2.2.1) (res.2.2.2.2.2.2.2.2.1) v_may v_mocks v_sumThen (res.2.2.2.2.2.2.2.2.2.1) v_bits v_bytesOf (res.2.2.2.2.2.2.2.2.2.2.1) (res.2.2.2.2.2.2.2.2.2.2.2.1) (res.2.2.2.2.2.2.2.2.2.2.2.2.1) (res.2.2.2.2.2.2.2.2.2.2.2.2.2.1) (res.2.2.2.2.2.2.2.2.2.2.2.2.2.2.1) v_logs (res.2.2.2.2.2.2.2.2.2.2.2.2.2.2.2.1) (res.2.2.2.2.2.2.2.2.2.2.2.2.2.2.2.2.1) (res.2.2.2.2.2.2.2.2.2.2.2.2.2.2.2.2.2.1) (res.2.2.2.2.2.2.2.2.2.2.2.2.2.2.2.2.2.2.1) (res.2.2.2.2.2.2.2.2.2.2.2.2.2.2.2.2.2.2.2.1) v_powers (res.2.2.2.2.2.2.2.2.2.2.2.2.2.2.2.2.2.2.2.2.1) (res.2.2.2.2.2.2.2.2.2.2.2.2.2.2.2.2.2.2.2.2.2.1) (res.2.2.2.2.2.2.2.2.2.2.2.2.2.2.2.2.2.2.2.2.2.2.1) (res.2.2.2.2.2.2.2.2.2.2.2.2.2.2.2.2.2.2.2.2.2.2.2.1) (res.2.2.2.2.2.2.2.2.2.2.2.2.2.2.2.2.2.2.2.2.2.2.2.2))) res := by
  refine ctr_of RX10 (by decide) rfl (Nat.le_of_ble_eq_true rfl) ?_
  intro p e s m below meth c A C hw ls hl
  have hx := C.1
  have hb := C.2.1
  have hl : lv_has ls 6 [(0, .ref a_this), (1, .int x1), (2, .int x2), (3, .int x3)] := hl
  unfold fX10_play at h
  refine lv_aload_n (pc := 0) hx hb dX10_play_0 rfl (lv_at hl 0 rfl) ?_
  refine lv_iconst (pc := 1) (v := 0) hx hb dX10_play_1 (by decide) ?_
  refine pf_X10_100 (pc := 2) (wX10_play cB cI cZ av a_this 0 v_size v_begins v_entries v_length v_pressed v_streamFrames v_zeros v_level v_sum v_tail v_isPlayed v_found v_strange v_innerFails v_outerFails v_mostMarks v_unsure v_may v_mocks v_sumThen v_beside v_bits v_bytesOf v_foundAt v_got v_innerMarks v_innerTold v_inners v_logs v_marked v_outerMarks v_outerTold v_outers v_places v_powers v_rows v_sure v_syndromes v_values v_word) C hw 0 rfl rfl rfl rfl (Nat.le_of_ble_eq_true rfl) dX10_play_2 (fun H locs hw => ?_)
  refine lv_aload_n (pc := 5) hx hb dX10_play_5 rfl (lv_at hl 0 rfl) ?_
  refine gf_X10_231 (pc := 6) C hw 0 rfl rfl dX10_play_6 ?_
  refine lv_if_eq (pc := 9) (tgt := 48) hx hb dX10_play_9 (by decide) (fun hc_1 => ?_) (fun hc_1 => ?_)
  · have h := ift hc_1 h
    refine lv_iconst (pc := 48) (v := (-1)) hx hb dX10_play_48 (by decide) ?_
    exact x_iret (pc := 49) (v := ((-1), v_found, v_innerFails, v_isPlayed, v_mostMarks, v_outerFails, v_strange, 0, v_unsure, v_beside, v_foundAt, v_got, v_innerMarks, v_innerTold, v_inners, v_marked, v_outerMarks, v_outerTold, v_outers, v_places, v_rows, v_sure, v_syndromes, v_values, v_word)) C (Option.some.inj h) rfl hw dX10_play_49
  · have h := iff' hc_1 h
    refine lv_iload_n (pc := 12) hx hb dX10_play_12 rfl (lv_at hl 1 rfl) ?_
    refine lv_i2l (pc := 13) hx hb dX10_play_13 rfl ?_
    refine lv_lconst (pc := 14) (v := 0) hx hb dX10_play_14 (by decide) ?_
    refine lv_ldc2 (pc := 15) (own := RX10) (v := 2) hx hb C.2.2.2.1 (C.2.2.2.2.1 _ tw_1412) dX10_play_15 ?_
    obtain ⟨r_2, hq_3, h⟩ := nt1_at h
    refine x_callS (pc := 18) (rest := []) (stk := [.int r_2]) (wX10_play cB cI cZ av a_this 0 v_size v_begins v_entries v_length v_pressed v_streamFrames v_zeros v_level v_sum v_tail v_isPlayed v_found v_strange v_innerFails v_outerFails v_mostMarks v_unsure v_may v_mocks v_sumThen v_beside v_bits v_bytesOf v_foundAt v_got v_innerMarks v_innerTold v_inners v_logs v_marked v_outerMarks v_outerTold v_outers v_places v_powers v_rows v_sure v_syndromes v_values v_word) C hw (ct_X10_in l D cB cI cZ tw av (Int32.toInt64 x1) 0 2 r_2 hq_3.symm) cal_X10_in tw_1176 [] [0, 1, 2, 3, 4, 5, 6, 7, 8, 9, 10, 11, 12, 13, 14, 15, 16, 17, 18, 19, 20] 21 [oX10 a_this av 0 v_size v_begins v_entries v_length v_pressed v_streamFrames v_zeros v_level v_sum v_tail v_isPlayed v_found v_strange v_innerFails v_outerFails v_mostMarks v_unsure v_may v_mocks v_sumThen, ((av 37), .inl (cI, 640, .inl v_beside)), ((av 13), .inl (cB, 360000, .inl v_bits)), ((av 2), .inl (cI, 16384, .inl v_bytesOf)), ((av 36), .inl (cI, 640, .inl v_foundAt)), ((av 42), .inl (cI, 11736, .inl v_got)), ((av 29), .inl (cZ, 20480, .inl v_innerMarks)), ((av 30), .inl (cI, 640, .inl v_innerTold)), ((av 28), .inl (cI, 20480, .inl v_inners)), ((av 4), .inl (cI, 256, .inl v_logs)), ((av 23), .inl (cZ, 32, .inl v_marked)), ((av 32), .inl (cZ, 17920, .inl v_outerMarks)), ((av 33), .inl (cI, 640, .inl v_outerTold)), ((av 31), .inl (cI, 17920, .inl v_outers)), ((av 25), .inl (cI, 4, .inl v_places)), ((av 3), .inl (cI, 512, .inl v_powers)), ((av 27), .inl (cI, 20, .inl v_rows)), ((av 43), .inl (cZ, 11736, .inl v_sure)), ((av 24), .inl (cI, 4, .inl v_syndromes)), ((av 26), .inl (cI, 4, .inl v_values)), ((av 22), .inl (cI, 32, .inl v_word))] rfl rfl rfl rfl rfl rfl rfl rfl rfl rfl rfl (Nat.le_of_ble_eq_true rfl) hl.1 ⟨Nat.le_of_ble_eq_true rfl, Nat.le_of_ble_eq_true rfl⟩ ⟨Nat.zero_le _, Nat.zero_le _⟩ dX10_play_18 (fun H locs hw => ?_)
    refine lv_if_eq (pc := 21) (tgt := 48) hx hb dX10_play_21 (by decide) (fun hc_4 => ?_) (fun hc_4 => ?_)
    · have h := ift hc_4 h
      refine lv_iconst (pc := 48) (v := (-1)) hx hb dX10_play_48 (by decide) ?_
      exact x_iret (pc := 49) (v := ((-1), v_found, v_innerFails, v_isPlayed, v_mostMarks, v_outerFails, v_strange, 0, v_unsure, v_beside, v_foundAt, v_got, v_innerMarks, v_innerTold, v_inners, v_marked, v_outerMarks, v_outerTold, v_outers, v_places, v_rows, v_sure, v_syndromes, v_values, v_word)) C (Option.some.inj h) rfl hw dX10_play_49
    · have h := iff' hc_4 h
      refine lv_iload_n (pc := 24) hx hb dX10_play_24 rfl (lv_at hl 2 rfl) ?_
      refine lv_i2l (pc := 25) hx hb dX10_play_25 rfl ?_
      refine lv_lconst (pc := 26) (v := 0) hx hb dX10_play_26 (by decide) ?_
      refine lv_ldc2 (pc := 27) (own := RX10) (v := 2) hx hb C.2.2.2.1 (C.2.2.2.2.1 _ tw_1412) dX10_play_27 ?_
      obtain ⟨r_5, hq_6, h⟩ := nt1_at h
      refine x_callS (pc := 30) (rest := []) (stk := [.int r_5]) (wX10_play cB cI cZ av a_this 0 v_size v_begins v_entries v_length v_pressed v_streamFrames v_zeros v_level v_sum v_tail v_isPlayed v_found v_strange v_innerFails v_outerFails v_mostMarks v_unsure v_may v_mocks v_sumThen v_beside v_bits v_bytesOf v_foundAt v_got v_innerMarks v_innerTold v_inners v_logs v_marked v_outerMarks v_outerTold v_outers v_places v_powers v_rows v_sure v_syndromes v_values v_word) C hw (ct_X10_in l D cB cI cZ tw av (Int32.toInt64 x2) 0 2 r_5 hq_6.symm) cal_X10_in tw_1176 [] [0, 1, 2, 3, 4, 5, 6, 7, 8, 9, 10, 11, 12, 13, 14, 15, 16, 17, 18, 19, 20] 21 [oX10 a_this av 0 v_size v_begins v_entries v_length v_pressed v_streamFrames v_zeros v_level v_sum v_tail v_isPlayed v_found v_strange v_innerFails v_outerFails v_mostMarks v_unsure v_may v_mocks v_sumThen, ((av 37), .inl (cI, 640, .inl v_beside)), ((av 13), .inl (cB, 360000, .inl v_bits)), ((av 2), .inl (cI, 16384, .inl v_bytesOf)), ((av 36), .inl (cI, 640, .inl v_foundAt)), ((av 42), .inl (cI, 11736, .inl v_got)), ((av 29), .inl (cZ, 20480, .inl v_innerMarks)), ((av 30), .inl (cI, 640, .inl v_innerTold)), ((av 28), .inl (cI, 20480, .inl v_inners)), ((av 4), .inl (cI, 256, .inl v_logs)), ((av 23), .inl (cZ, 32, .inl v_marked)), ((av 32), .inl (cZ, 17920, .inl v_outerMarks)), ((av 33), .inl (cI, 640, .inl v_outerTold)), ((av 31), .inl (cI, 17920, .inl v_outers)), ((av 25), .inl (cI, 4, .inl v_places)), ((av 3), .inl (cI, 512, .inl v_powers)), ((av 27), .inl (cI, 20, .inl v_rows)), ((av 43), .inl (cZ, 11736, .inl v_sure)), ((av 24), .inl (cI, 4, .inl v_syndromes)), ((av 26), .inl (cI, 4, .inl v_values)), ((av 22), .inl (cI, 32, .inl v_word))] rfl rfl rfl rfl rfl rfl rfl rfl rfl rfl rfl (Nat.le_of_ble_eq_true rfl) hl.1 ⟨Nat.le_of_ble_eq_true rfl, Nat.le_of_ble_eq_true rfl⟩ ⟨Nat.zero_le _, Nat.zero_le _⟩ dX10_play_30 (fun H locs hw => ?_)
      refine lv_if_eq (pc := 33) (tgt := 48) hx hb dX10_play_33 (by decide) (fun hc_7 => ?_) (fun hc_7 => ?_)
      · have h := ift hc_7 h
        refine lv_iconst (pc := 48) (v := (-1)) hx hb dX10_play_48 (by decide) ?_
        exact x_iret (pc := 49) (v := ((-1), v_found, v_innerFails, v_isPlayed, v_mostMarks, v_outerFails, v_strange, 0, v_unsure, v_beside, v_foundAt, v_got, v_innerMarks, v_innerTold, v_inners, v_marked, v_outerMarks, v_outerTold, v_outers, v_places, v_rows, v_sure, v_syndromes, v_values, v_word)) C (Option.some.inj h) rfl hw dX10_play_49
      · have h := iff' hc_7 h
        refine lv_iload_n (pc := 36) hx hb dX10_play_36 rfl (lv_at hl 3 rfl) ?_
        refine lv_i2l (pc := 37) hx hb dX10_play_37 rfl ?_
        refine lv_lconst (pc := 38) (v := 0) hx hb dX10_play_38 (by decide) ?_
        refine lv_ldc2 (pc := 39) (own := RX10) (v := 20) hx hb C.2.2.2.1 (C.2.2.2.2.1 _ tw_1413) dX10_play_39 ?_
        obtain ⟨r_8, hq_9, h⟩ := nt1_at h
        refine x_callS (pc := 42) (rest := []) (stk := [.int r_8]) (wX10_play cB cI cZ av a_this 0 v_size v_begins v_entries v_length v_pressed v_streamFrames v_zeros v_level v_sum v_tail v_isPlayed v_found v_strange v_innerFails v_outerFails v_mostMarks v_unsure v_may v_mocks v_sumThen v_beside v_bits v_bytesOf v_foundAt v_got v_innerMarks v_innerTold v_inners v_logs v_marked v_outerMarks v_outerTold v_outers v_places v_powers v_rows v_sure v_syndromes v_values v_word) C hw (ct_X10_in l D cB cI cZ tw av (Int32.toInt64 x3) 0 20 r_8 hq_9.symm) cal_X10_in tw_1176 [] [0, 1, 2, 3, 4, 5, 6, 7, 8, 9, 10, 11, 12, 13, 14, 15, 16, 17, 18, 19, 20] 21 [oX10 a_this av 0 v_size v_begins v_entries v_length v_pressed v_streamFrames v_zeros v_level v_sum v_tail v_isPlayed v_found v_strange v_innerFails v_outerFails v_mostMarks v_unsure v_may v_mocks v_sumThen, ((av 37), .inl (cI, 640, .inl v_beside)), ((av 13), .inl (cB, 360000, .inl v_bits)), ((av 2), .inl (cI, 16384, .inl v_bytesOf)), ((av 36), .inl (cI, 640, .inl v_foundAt)), ((av 42), .inl (cI, 11736, .inl v_got)), ((av 29), .inl (cZ, 20480, .inl v_innerMarks)), ((av 30), .inl (cI, 640, .inl v_innerTold)), ((av 28), .inl (cI, 20480, .inl v_inners)), ((av 4), .inl (cI, 256, .inl v_logs)), ((av 23), .inl (cZ, 32, .inl v_marked)), ((av 32), .inl (cZ, 17920, .inl v_outerMarks)), ((av 33), .inl (cI, 640, .inl v_outerTold)), ((av 31), .inl (cI, 17920, .inl v_outers)), ((av 25), .inl (cI, 4, .inl v_places)), ((av 3), .inl (cI, 512, .inl v_powers)), ((av 27), .inl (cI, 20, .inl v_rows)), ((av 43), .inl (cZ, 11736, .inl v_sure)), ((av 24), .inl (cI, 4, .inl v_syndromes)), ((av 26), .inl (cI, 4, .inl v_values)), ((av 22), .inl (cI, 32, .inl v_word))] rfl rfl rfl rfl rfl rfl rfl rfl rfl rfl rfl (Nat.le_of_ble_eq_true rfl) hl.1 ⟨Nat.le_of_ble_eq_true rfl, Nat.le_of_ble_eq_true rfl⟩ ⟨Nat.zero_le _, Nat.zero_le _⟩ dX10_play_42 (fun H locs hw => ?_)
        refine lv_if_ne (pc := 45) (tgt := 50) hx hb dX10_play_45 (by decide) (fun hc_10 => ?_) (fun hc_10 => ?_)
        · have h := iff' hc_10 h
          refine lv_aload_n (pc := 50) hx hb dX10_play_50 rfl (lv_at hl 0 rfl) ?_
          refine lv_iconst (pc := 51) (v := 1) hx hb dX10_play_51 (by decide) ?_
          refine pf_X10_250 (pc := 52) (wX10_play cB cI cZ av a_this 0 v_size v_begins v_entries v_length v_pressed v_streamFrames v_zeros v_level v_sum v_tail 1 v_found v_strange v_innerFails v_outerFails v_mostMarks v_unsure v_may v_mocks v_sumThen v_beside v_bits v_bytesOf v_foundAt v_got v_innerMarks v_innerTold v_inners v_logs v_marked v_outerMarks v_outerTold v_outers v_places v_powers v_rows v_sure v_syndromes v_values v_word) C hw 0 rfl rfl rfl rfl (Nat.le_of_ble_eq_true rfl) dX10_play_52 (fun H locs hw => ?_)
          refine lv_aload_n (pc := 55) hx hb dX10_play_55 rfl (lv_at hl 0 rfl) ?_
          refine lv_iconst (pc := 56) (v := 0) hx hb dX10_play_56 (by decide) ?_
          refine pf_X10_321 (pc := 57) (wX10_play cB cI cZ av a_this 0 v_size v_begins v_entries v_length v_pressed v_streamFrames v_zeros v_level v_sum v_tail 1 v_found 0 v_innerFails v_outerFails v_mostMarks v_unsure v_may v_mocks v_sumThen v_beside v_bits v_bytesOf v_foundAt v_got v_innerMarks v_innerTold v_inners v_logs v_marked v_outerMarks v_outerTold v_outers v_places v_powers v_rows v_sure v_syndromes v_values v_word) C hw 0 rfl rfl rfl rfl (Nat.le_of_ble_eq_true rfl) dX10_play_57 (fun H locs hw => ?_)
          refine lv_aload_n (pc := 60) hx hb dX10_play_60 rfl (lv_at hl 0 rfl) ?_
          refine lv_iconst (pc := 61) (v := 0) hx hb dX10_play_61 (by decide) ?_
          refine pf_X10_305 (pc := 62) (wX10_play cB cI cZ av a_this 0 v_size v_begins v_entries v_length v_pressed v_streamFrames v_zeros v_level v_sum v_tail 1 v_found 0 0 v_outerFails v_mostMarks v_unsure v_may v_mocks v_sumThen v_beside v_bits v_bytesOf v_foundAt v_got v_innerMarks v_innerTold v_inners v_logs v_marked v_outerMarks v_outerTold v_outers v_places v_powers v_rows v_sure v_syndromes v_values v_word) C hw 0 rfl rfl rfl rfl (Nat.le_of_ble_eq_true rfl) dX10_play_62 (fun H locs hw => ?_)
          refine lv_aload_n (pc := 65) hx hb dX10_play_65 rfl (lv_at hl 0 rfl) ?_
          refine lv_iconst (pc := 66) (v := 0) hx hb dX10_play_66 (by decide) ?_
          refine pf_X10_311 (pc := 67) (wX10_play cB cI cZ av a_this 0 v_size v_begins v_entries v_length v_pressed v_streamFrames v_zeros v_level v_sum v_tail 1 v_found 0 0 0 v_mostMarks v_unsure v_may v_mocks v_sumThen v_beside v_bits v_bytesOf v_foundAt v_got v_innerMarks v_innerTold v_inners v_logs v_marked v_outerMarks v_outerTold v_outers v_places v_powers v_rows v_sure v_syndromes v_values v_word) C hw 0 rfl rfl rfl rfl (Nat.le_of_ble_eq_true rfl) dX10_play_67 (fun H locs hw => ?_)
          refine lv_aload_n (pc := 70) hx hb dX10_play_70 rfl (lv_at hl 0 rfl) ?_
          refine lv_iconst (pc := 71) (v := 0) hx hb dX10_play_71 (by decide) ?_
          refine pf_X10_308 (pc := 72) (wX10_play cB cI cZ av a_this 0 v_size v_begins v_entries v_length v_pressed v_streamFrames v_zeros v_level v_sum v_tail 1 v_found 0 0 0 0 v_unsure v_may v_mocks v_sumThen v_beside v_bits v_bytesOf v_foundAt v_got v_innerMarks v_innerTold v_inners v_logs v_marked v_outerMarks v_outerTold v_outers v_places v_powers v_rows v_sure v_syndromes v_values v_word) C hw 0 rfl rfl rfl rfl (Nat.le_of_ble_eq_true rfl) dX10_play_72 (fun H locs hw => ?_)
          refine lv_aload_n (pc := 75) hx hb dX10_play_75 rfl (lv_at hl 0 rfl) ?_
          refine lv_iconst (pc := 76) (v := 0) hx hb dX10_play_76 (by decide) ?_
          refine pf_X10_314 (pc := 77) (wX10_play cB cI cZ av a_this 0 v_size v_begins v_entries v_length v_pressed v_streamFrames v_zeros v_level v_sum v_tail 1 v_found 0 0 0 0 0 v_may v_mocks v_sumThen v_beside v_bits v_bytesOf v_foundAt v_got v_innerMarks v_innerTold v_inners v_logs v_marked v_outerMarks v_outerTold v_outers v_places v_powers v_rows v_sure v_syndromes v_values v_word) C hw 0 rfl rfl rfl rfl (Nat.le_of_ble_eq_true rfl) dX10_play_77 (fun H locs hw => ?_)
          refine lv_aload_n (pc := 80) hx hb dX10_play_80 rfl (lv_at hl 0 rfl) ?_
          refine lv_iload_n (pc := 81) hx hb dX10_play_81 rfl (lv_at hl 3 rfl) ?_
          obtain ⟨v_found_11, v_beside_12, v_foundAt_13, hq_14, h⟩ := ob3_at h
          refine x_callV (pc := 82) (rest := []) (stk := []) (wX10_play cB cI cZ av a_this 0 v_size v_begins v_entries v_length v_pressed v_streamFrames v_zeros v_level v_sum v_tail 1 v_found_11 0 0 0 0 0 v_may v_mocks v_sumThen v_beside_12 v_bits v_bytesOf v_foundAt_13 v_got v_innerMarks v_innerTold v_inners v_logs v_marked v_outerMarks v_outerTold v_outers v_places v_powers v_rows v_sure v_syndromes v_values v_word) C hw (ct_X10_findFrames l D cB cI cZ tw av a_this 0 v_size v_begins v_entries v_length v_pressed v_streamFrames v_zeros v_level v_sum v_tail 1 v_found 0 0 0 0 0 v_may v_mocks v_sumThen v_beside v_bits v_foundAt x3 (v_found_11, v_beside_12, v_foundAt_13) hq_14) cal_X10_findFrames tw_1414 (q0 := 0) rfl rfl [0, 1, 2, 4] [3, 5, 6, 7, 8, 9, 10, 11, 12, 13, 14, 15, 16, 17, 18, 19, 20] 21 [((av 2), .inl (cI, 16384, .inl v_bytesOf)), ((av 42), .inl (cI, 11736, .inl v_got)), ((av 29), .inl (cZ, 20480, .inl v_innerMarks)), ((av 30), .inl (cI, 640, .inl v_innerTold)), ((av 28), .inl (cI, 20480, .inl v_inners)), ((av 4), .inl (cI, 256, .inl v_logs)), ((av 23), .inl (cZ, 32, .inl v_marked)), ((av 32), .inl (cZ, 17920, .inl v_outerMarks)), ((av 33), .inl (cI, 640, .inl v_outerTold)), ((av 31), .inl (cI, 17920, .inl v_outers)), ((av 25), .inl (cI, 4, .inl v_places)), ((av 3), .inl (cI, 512, .inl v_powers)), ((av 27), .inl (cI, 20, .inl v_rows)), ((av 43), .inl (cZ, 11736, .inl v_sure)), ((av 24), .inl (cI, 4, .inl v_syndromes)), ((av 26), .inl (cI, 4, .inl v_values)), ((av 22), .inl (cI, 32, .inl v_word))] rfl rfl rfl rfl rfl rfl rfl rfl rfl rfl rfl (Nat.le_of_ble_eq_true rfl) hl.1 ⟨Nat.le_of_ble_eq_true rfl, Nat.le_of_ble_eq_true rfl⟩ ⟨Nat.zero_le _, Nat.zero_le _⟩ dX10_play_82 (fun H locs hw => ?_)
          refine lv_iconst (pc := 85) (v := 0) hx hb dX10_play_85 (by decide) ?_
          refine lv_istore (pc := 86) (lv' := [(4, .int 0), (0, .ref a_this), (1, .int x1), (2, .int x2), (3, .int x3)]) hx hb dX10_play_86 hl (by decide) rfl (fun ls hl => ?_)
          obtain ⟨j163_16, ej163_16, h⟩ := jk_at h
          have J163_16 : ∀ (v_strange_15 : Int32) (ls : Array Slot) (H : Heap) (locs : List Loc), lv_has ls 6 [(0, .ref a_this), (1, .int x1), (2, .int x2)] → Wd D A s (wX10_play cB cI cZ av a_this 0 v_size v_begins v_entries v_length v_pressed v_streamFrames v_zeros v_level v_sum v_tail 1 v_found_11 v_strange_15 0 0 0 0 v_may v_mocks v_sumThen v_beside_12 v_bits v_bytesOf v_foundAt_13 v_got v_innerMarks v_innerTold v_inners v_logs v_marked v_outerMarks v_outerTold v_outers v_places v_powers v_rows v_sure v_syndromes v_values v_word) H locs → j163_16 v_strange_15 = some res → W p l e (rmK 5 112) s m ([.ref a_this, .int x1, .int x2, .int x3] : List Value).toArray below meth c H locs 0 0 (MQ below (QG D (tyL cB cI cZ) A (fun res : Int32 × Int32 × Int32 × Int32 × Int32 × Int32 × Int32 × Int32 × Int32 × (Nat → Int32) × (Nat → Int32) × (Nat → Int32) × (Nat → Int32) × (Nat → Int32) × (Nat → Int32) × (Nat → Int32) × (Nat → Int32) × (Nat → Int32) × (Nat → Int32) × (Nat → Int32) × (Nat → Int32) × (Nat → Int32) × (Nat → Int32) × (Nat → Int32) × (Nat → Int32) => some (.int res.1)) (fun res : Int32 × Int32 × Int32 × Int32 × Int32 × Int32 × Int32 × Int32 × Int32 × (Nat → Int32) × (Nat → Int32) × (Nat → Int32) × (Nat → Int32) × (Nat → Int32) × (Nat → Int32) × (Nat → Int32) × (Nat → Int32) × (Nat → Int32) × (Nat → Int32) × (Nat → Int32) × (Nat → Int32) × (Nat → Int32) × (Nat → Int32) × (Nat → Int32) × (Nat → Int32) => (wX10_play cB cI cZ av a_this (res.2.2.2.2.2.2.2.1) v_size v_begins v_entries v_length v_pressed v_streamFrames v_zeros v_level v_sum v_tail (res.2.2.2.1) (res.2.1) (res.2.2.2.2.2.2.1) (res.2.2.1) (res.2.2.2.2.2.1) (res.2.2.2.2.1) (res.2.2.2.2.2.2.2.2.1) v_may v_mocks v_sumThen (res.2.2.2.2.2.2.2.2.2.1) v_bits v_bytesOf (res.2.2.2.2.2.2.2.2.2.2.1) (res.2.2.2.2.2.2.2.2.2.2.2.1) (res.2.2.2.2.2.2.2.2.2.2.2.2.1) (res.2.2.2.2.2.2.2.2.2.2.2.2.2.1) (res.2.2.2.2.2.2.2.2.2.2.2.2.2.2.1) v_logs (res.2.2.2.2.2.2.2.2.2.2.2.2.2.2.2.1) (res.2.2.2.2.2.2.2.2.2.2.2.2.2.2.2.2.1) (res.2.2.2.2.2.2.2.2.2.2.2.2.2.2.2.2.2.1) (res.2.2.2.2.2.2.2.2.2.2.2.2.2.2.2.2.2.2.1) (res.2.2.2.2.2.2.2.2.2.2.2.2.2.2.2.2.2.2.2.1) v_powers (res.2.2.2.2.2.2.2.2.2.2.2.2.2.2.2.2.2.2.2.2.1) (res.2.2.2.2.2.2.2.2.2.2.2.2.2.2.2.2.2.2.2.2.2.1) (res.2.2.2.2.2.2.2.2.2.2.2.2.2.2.2.2.2.2.2.2.2.2.1) (res.2.2.2.2.2.2.2.2.2.2.2.2.2.2.2.2.2.2.2.2.2.2.2.1) (res.2.2.2.2.2.2.2.2.2.2.2.2.2.2.2.2.2.2.2.2.2.2.2.2))) res) ([.ref a_this, .int x1, .int x2, .int x3] : List Value).toArray s 0 0 A) (F0 m 163 ls []) := by
            intro v_strange_15 ls H locs hl hw h
            have h := k1_at ej163_16 h
            refine lv_iconst (pc := 163) (v := 0) hx hb dX10_play_163 (by decide) ?_
            refine lv_istore (pc := 164) (lv' := [(4, .int 0), (0, .ref a_this), (1, .int x1), (2, .int x2)]) hx hb dX10_play_164 hl (by decide) rfl (fun ls hl => ?_)
            obtain ⟨j188_27, ej188_27, h⟩ := jk_at h
            have J188_27 : ∀ (v_innerFails_17 : Int32) (v_innerMarks_18 : Nat → Int32) (v_innerTold_19 : Nat → Int32) (v_inners_20 : Nat → Int32) (v_marked_21 : Nat → Int32) (v_places_22 : Nat → Int32) (v_rows_23 : Nat → Int32) (v_syndromes_24 : Nat → Int32) (v_values_25 : Nat → Int32) (v_word_26 : Nat → Int32) (ls : Array Slot) (H : Heap) (locs : List Loc), lv_has ls 6 [(0, .ref a_this), (2, .int x2)] → Wd D A s (wX10_play cB cI cZ av a_this 0 v_size v_begins v_entries v_length v_pressed v_streamFrames v_zeros v_level v_sum v_tail 1 v_found_11 v_strange_15 v_innerFails_17 0 0 0 v_may v_mocks v_sumThen v_beside_12 v_bits v_bytesOf v_foundAt_13 v_got v_innerMarks_18 v_innerTold_19 v_inners_20 v_logs v_marked_21 v_outerMarks v_outerTold v_outers v_places_22 v_powers v_rows_23 v_sure v_syndromes_24 v_values_25 v_word_26) H locs → j188_27 v_innerFails_17 v_innerMarks_18 v_innerTold_19 v_inners_20 v_marked_21 v_places_22 v_rows_23 v_syndromes_24 v_values_25 v_word_26 = some res → W p l e (rmK 5 112) s m ([.ref a_this, .int x1, .int x2, .int x3] : List Value).toArray below meth c H locs 0 0 (MQ below (QG D (tyL cB cI cZ) A (fun res : Int32 × Int32 × Int32 × Int32 × Int32 × Int32 × Int32 × Int32 × Int32 × (Nat → Int32) × (Nat → Int32) × (Nat → Int32) × (Nat → Int32) × (Nat → Int32) × (Nat → Int32) × (Nat → Int32) × (Nat → Int32) × (Nat → Int32) × (Nat → Int32) × (Nat → Int32) × (Nat → Int32) × (Nat → Int32) × (Nat → Int32) × (Nat → Int32) × (Nat → Int32) => some (.int res.1)) (fun res : Int32 × Int32 × Int32 × Int32 × Int32 × Int32 × Int32 × Int32 × Int32 × (Nat → Int32) × (Nat → Int32) × (Nat → Int32) × (Nat → Int32) × (Nat → Int32) × (Nat → Int32) × (Nat → Int32) × (Nat → Int32) × (Nat → Int32) × (Nat → Int32) × (Nat → Int32) × (Nat → Int32) × (Nat → Int32) × (Nat → Int32) × (Nat → Int32) × (Nat → Int32) => (wX10_play cB cI cZ av a_this (res.2.2.2.2.2.2.2.1) v_size v_begins v_entries v_length v_pressed v_streamFrames v_zeros v_level v_sum v_tail (res.2.2.2.1) (res.2.1) (res.2.2.2.2.2.2.1) (res.2.2.1) (res.2.2.2.2.2.1) (res.2.2.2.2.1) (res.2.2.2.2.2.2.2.2.1) v_may v_mocks v_sumThen (res.2.2.2.2.2.2.2.2.2.1) v_bits v_bytesOf (res.2.2.2.2.2.2.2.2.2.2.1) (res.2.2.2.2.2.2.2.2.2.2.2.1) (res.2.2.2.2.2.2.2.2.2.2.2.2.1) (res.2.2.2.2.2.2.2.2.2.2.2.2.2.1) (res.2.2.2.2.2.2.2.2.2.2.2.2.2.2.1) v_logs (res.2.2.2.2.2.2.2.2.2.2.2.2.2.2.2.1) (res.2.2.2.2.2.2.2.2.2.2.2.2.2.2.2.2.1) (res.2.2.2.2.2.2.2.2.2.2.2.2.2.2.2.2.2.1) (res.2.2.2.2.2.2.2.2.2.2.2.2.2.2.2.2.2.2.1) (res.2.2.2.2.2.2.2.2.2.2.2.2.2.2.2.2.2.2.2.1) v_powers (res.2.2.2.2.2.2.2.2.2.2.2.2.2.2.2.2.2.2.2.2.1) (res.2.2.2.2.2.2.2.2.2.2.2.2.2.2.2.2.2.2.2.2.2.1) (res.2.2.2.2.2.2.2.2.2.2.2.2.2.2.2.2.2.2.2.2.2.2.1) (res.2.2.2.2.2.2.2.2.2.2.2.2.2.2.2.2.2.2.2.2.2.2.2.1) (res.2.2.2.2.2.2.2.2.2.2.2.2.2.2.2.2.2.2.2.2.2.2.2.2))) res) ([.ref a_this, .int x1, .int x2, .int x3] : List Value).toArray s 0 0 A) (F0 m 188 ls []) := by
              intro v_innerFails_17 v_innerMarks_18 v_innerTold_19 v_inners_20 v_marked_21 v_places_22 v_rows_23 v_syndromes_24 v_values_25 v_word_26 ls H locs hl hw h
              have h := k10_at ej188_27 h
              refine lv_iconst (pc := 188) (v := 0) hx hb dX10_play_188 (by decide) ?_
              refine lv_istore (pc := 189) (lv' := [(4, .int 0), (0, .ref a_this), (2, .int x2)]) hx hb dX10_play_189 hl (by decide) rfl (fun ls hl => ?_)
              obtain ⟨j213_39, ej213_39, h⟩ := jk_at h
              have J213_39 : ∀ (v_outerFails_28 : Int32) (v_mostMarks_29 : Int32) (v_marked_30 : Nat → Int32) (v_outerMarks_31 : Nat → Int32) (v_outerTold_32 : Nat → Int32) (v_outers_33 : Nat → Int32) (v_places_34 : Nat → Int32) (v_rows_35 : Nat → Int32) (v_syndromes_36 : Nat → Int32) (v_values_37 : Nat → Int32) (v_word_38 : Nat → Int32) (ls : Array Slot) (H : Heap) (locs : List Loc), lv_has ls 6 [(0, .ref a_this)] → Wd D A s (wX10_play cB cI cZ av a_this 0 v_size v_begins v_entries v_length v_pressed v_streamFrames v_zeros v_level v_sum v_tail 1 v_found_11 v_strange_15 v_innerFails_17 v_outerFails_28 v_mostMarks_29 0 v_may v_mocks v_sumThen v_beside_12 v_bits v_bytesOf v_foundAt_13 v_got v_innerMarks_18 v_innerTold_19 v_inners_20 v_logs v_marked_30 v_outerMarks_31 v_outerTold_32 v_outers_33 v_places_34 v_powers v_rows_35 v_sure v_syndromes_36 v_values_37 v_word_38) H locs → j213_39 v_outerFails_28 v_mostMarks_29 v_marked_30 v_outerMarks_31 v_outerTold_32 v_outers_33 v_places_34 v_rows_35 v_syndromes_36 v_values_37 v_word_38 = some res → W p l e (rmK 5 112) s m ([.ref a_this, .int x1, .int x2, .int x3] : List Value).toArray below meth c H locs 0 0 (MQ below (QG D (tyL cB cI cZ) A (fun res : Int32 × Int32 × Int32 × Int32 × Int32 × Int32 × Int32 × Int32 × Int32 × (Nat → Int32) × (Nat → Int32) × (Nat → Int32) × (Nat → Int32) × (Nat → Int32) × (Nat → Int32) × (Nat → Int32) × (Nat → Int32) × (Nat → Int32) × (Nat → Int32) × (Nat → Int32) × (Nat → Int32) × (Nat → Int32) × (Nat → Int32) × (Nat → Int32) × (Nat → Int32) => some (.int res.1)) (fun res : Int32 × Int32 × Int32 × Int32 × Int32 × Int32 × Int32 × Int32 × Int32 × (Nat → Int32) × (Nat → Int32) × (Nat → Int32) × (Nat → Int32) × (Nat → Int32) × (Nat → Int32) × (Nat → Int32) × (Nat → Int32) × (Nat → Int32) × (Nat → Int32) × (Nat → Int32) × (Nat → Int32) × (Nat → Int32) × (Nat → Int32) × (Nat → Int32) × (Nat → Int32) => (wX10_play cB cI cZ av a_this (res.2.2.2.2.2.2.2.1) v_size v_begins v_entries v_length v_pressed v_streamFrames v_zeros v_level v_sum v_tail (res.2.2.2.1) (res.2.1) (res.2.2.2.2.2.2.1) (res.2.2.1) (res.2.2.2.2.2.1) (res.2.2.2.2.1) (res.2.2.2.2.2.2.2.2.1) v_may v_mocks v_sumThen (res.2.2.2.2.2.2.2.2.2.1) v_bits v_bytesOf (res.2.2.2.2.2.2.2.2.2.2.1) (res.2.2.2.2.2.2.2.2.2.2.2.1) (res.2.2.2.2.2.2.2.2.2.2.2.2.1) (res.2.2.2.2.2.2.2.2.2.2.2.2.2.1) (res.2.2.2.2.2.2.2.2.2.2.2.2.2.2.1) v_logs (res.2.2.2.2.2.2.2.2.2.2.2.2.2.2.2.1) (res.2.2.2.2.2.2.2.2.2.2.2.2.2.2.2.2.1) (res.2.2.2.2.2.2.2.2.2.2.2.2.2.2.2.2.2.1) (res.2.2.2.2.2.2.2.2.2.2.2.2.2.2.2.2.2.2.1) (res.2.2.2.2.2.2.2.2.2.2.2.2.2.2.2.2.2.2.2.1) v_powers (res.2.2.2.2.2.2.2.2.2.2.2.2.2.2.2.2.2.2.2.2.1) (res.2.2.2.2.2.2.2.2.2.2.2.2.2.2.2.2.2.2.2.2.2.1) (res.2.2.2.2.2.2.2.2.2.2.2.2.2.2.2.2.2.2.2.2.2.2.1) (res.2.2.2.2.2.2.2.2.2.2.2.2.2.2.2.2.2.2.2.2.2.2.2.1) (res.2.2.2.2.2.2.2.2.2.2.2.2.2.2.2.2.2.2.2.2.2.2.2.2))) res) ([.ref a_this, .int x1, .int x2, .int x3] : List Value).toArray s 0 0 A) (F0 m 213 ls []) := by
                intro v_outerFails_28 v_mostMarks_29 v_marked_30 v_outerMarks_31 v_outerTold_32 v_outers_33 v_places_34 v_rows_35 v_syndromes_36 v_values_37 v_word_38 ls H locs hl hw h
                have h := k11_at ej213_39 h
                refine lv_iconst (pc := 213) (v := 0) hx hb dX10_play_213 (by decide) ?_
                refine lv_istore (pc := 214) (lv' := [(4, .int 0), (0, .ref a_this)]) hx hb dX10_play_214 hl (by decide) rfl (fun ls hl => ?_)
                have Lih216_44 : ∀ (F : Nat) (x4_40 : Int32) (v_unsure_41 : Int32) (v_got_42 : Nat → Int32) (v_sure_43 : Nat → Int32) (ls : Array Slot) (H : Heap) (locs : List Loc), lv_has ls 6 [(4, .int x4_40), (0, .ref a_this)] → Wd D A s (wX10_play cB cI cZ av a_this 0 v_size v_begins v_entries v_length v_pressed v_streamFrames v_zeros v_level v_sum v_tail 1 v_found_11 v_strange_15 v_innerFails_17 v_outerFails_28 v_mostMarks_29 v_unsure_41 v_may v_mocks v_sumThen v_beside_12 v_bits v_bytesOf v_foundAt_13 v_got_42 v_innerMarks_18 v_innerTold_19 v_inners_20 v_logs v_marked_30 v_outerMarks_31 v_outerTold_32 v_outers_33 v_places_34 v_powers v_rows_35 v_sure_43 v_syndromes_36 v_values_37 v_word_38) H locs → fX10_play_L216 v_streamFrames v_found_11 v_innerFails_17 v_mostMarks_29 v_outerFails_28 v_strange_15 v_beside_12 v_foundAt_13 v_innerMarks_18 v_innerTold_19 v_inners_20 v_marked_30 v_outerMarks_31 v_outerTold_32 v_outers_33 v_places_34 v_rows_35 v_syndromes_36 v_values_37 v_word_38 F x4_40 v_unsure_41 v_got_42 v_sure_43 = some res → W p l e (rmK 5 112) s m ([.ref a_this, .int x1, .int x2, .int x3] : List Value).toArray below meth c H locs 0 0 (MQ below (QG D (tyL cB cI cZ) A (fun res : Int32 × Int32 × Int32 × Int32 × Int32 × Int32 × Int32 × Int32 × Int32 × (Nat → Int32) × (Nat → Int32) × (Nat → Int32) × (Nat → Int32) × (Nat → Int32) × (Nat → Int32) × (Nat → Int32) × (Nat → Int32) × (Nat → Int32) × (Nat → Int32) × (Nat → Int32) × (Nat → Int32) × (Nat → Int32) × (Nat → Int32) × (Nat → Int32) × (Nat → Int32) => some (.int res.1)) (fun res : Int32 × Int32 × Int32 × Int32 × Int32 × Int32 × Int32 × Int32 × Int32 × (Nat → Int32) × (Nat → Int32) × (Nat → Int32) × (Nat → Int32) × (Nat → Int32) × (Nat → Int32) × (Nat → Int32) × (Nat → Int32) × (Nat → Int32) × (Nat → Int32) × (Nat → Int32) × (Nat → Int32) × (Nat → Int32) × (Nat → Int32) × (Nat → Int32) × (Nat → Int32) => (wX10_play cB cI cZ av a_this (res.2.2.2.2.2.2.2.1) v_size v_begins v_entries v_length v_pressed v_streamFrames v_zeros v_level v_sum v_tail (res.2.2.2.1) (res.2.1) (res.2.2.2.2.2.2.1) (res.2.2.1) (res.2.2.2.2.2.1) (res.2.2.2.2.1) (res.2.2.2.2.2.2.2.2.1) v_may v_mocks v_sumThen (res.2.2.2.2.2.2.2.2.2.1) v_bits v_bytesOf (res.2.2.2.2.2.2.2.2.2.2.1) (res.2.2.2.2.2.2.2.2.2.2.2.1) (res.2.2.2.2.2.2.2.2.2.2.2.2.1) (res.2.2.2.2.2.2.2.2.2.2.2.2.2.1) (res.2.2.2.2.2.2.2.2.2.2.2.2.2.2.1) v_logs (res.2.2.2.2.2.2.2.2.2.2.2.2.2.2.2.1) (res.2.2.2.2.2.2.2.2.2.2.2.2.2.2.2.2.1) (res.2.2.2.2.2.2.2.2.2.2.2.2.2.2.2.2.2.1) (res.2.2.2.2.2.2.2.2.2.2.2.2.2.2.2.2.2.2.1) (res.2.2.2.2.2.2.2.2.2.2.2.2.2.2.2.2.2.2.2.1) v_powers (res.2.2.2.2.2.2.2.2.2.2.2.2.2.2.2.2.2.2.2.2.1) (res.2.2.2.2.2.2.2.2.2.2.2.2.2.2.2.2.2.2.2.2.2.1) (res.2.2.2.2.2.2.2.2.2.2.2.2.2.2.2.2.2.2.2.2.2.2.1) (res.2.2.2.2.2.2.2.2.2.2.2.2.2.2.2.2.2.2.2.2.2.2.2.1) (res.2.2.2.2.2.2.2.2.2.2.2.2.2.2.2.2.2.2.2.2.2.2.2.2))) res) ([.ref a_this, .int x1, .int x2, .int x3] : List Value).toArray s 0 0 A) (F0 m 216 ls []) := by
                  intro F
                  induction F with
                  | zero => intro x4_40 v_unsure_41 v_got_42 v_sure_43 ls H locs hl hw h; rw [fX10_play_L216.eq_1] at h; cases h
                  | succ F216_44 ih216_44 =>
                    intro x4_40 v_unsure_41 v_got_42 v_sure_43 ls H locs hl hw h
                    rw [fX10_play_L216.eq_2] at h
                    refine lv_iload (pc := 216) hx hb dX10_play_216 (lv_at hl 0 rfl) ?_
                    refine lv_aload_n (pc := 218) hx hb dX10_play_218 rfl (lv_at hl 1 rfl) ?_
                    refine gf_X10_169 (pc := 219) C hw 0 rfl rfl dX10_play_219 ?_
                    refine lv_icmp_ge (pc := 222) (tgt := 237) hx hb dX10_play_222 (by decide) (fun hc_45 => ?_) (fun hc_45 => ?_)
                    · have h := ift hc_45 h
                      refine lv_aload_n (pc := 237) hx hb dX10_play_237 rfl (lv_at hl 1 rfl) ?_
                      refine gf_X10_314 (pc := 238) C hw 0 rfl rfl dX10_play_238 ?_
                      exact x_iret (pc := 241) (v := (v_unsure_41, v_found_11, v_innerFails_17, 1, v_mostMarks_29, v_outerFails_28, v_strange_15, 0, v_unsure_41, v_beside_12, v_foundAt_13, v_got_42, v_innerMarks_18, v_innerTold_19, v_inners_20, v_marked_30, v_outerMarks_31, v_outerTold_32, v_outers_33, v_places_34, v_rows_35, v_sure_43, v_syndromes_36, v_values_37, v_word_38)) C (Option.some.inj h) rfl hw dX10_play_241
                    · have h := iff' hc_45 h
                      refine lv_aload_n (pc := 225) hx hb dX10_play_225 rfl (lv_at hl 1 rfl) ?_
                      refine lv_iload (pc := 226) hx hb dX10_play_226 (lv_at hl 0 rfl) ?_
                      obtain ⟨v_unsure_46, v_got_47, v_sure_48, hq_49, h⟩ := ob3_at h
                      refine x_callV (pc := 228) (rest := []) (stk := []) (wX10_play cB cI cZ av a_this 0 v_size v_begins v_entries v_length v_pressed v_streamFrames v_zeros v_level v_sum v_tail 1 v_found_11 v_strange_15 v_innerFails_17 v_outerFails_28 v_mostMarks_29 v_unsure_46 v_may v_mocks v_sumThen v_beside_12 v_bits v_bytesOf v_foundAt_13 v_got_47 v_innerMarks_18 v_innerTold_19 v_inners_20 v_logs v_marked_30 v_outerMarks_31 v_outerTold_32 v_outers_33 v_places_34 v_powers v_rows_35 v_sure_48 v_syndromes_36 v_values_37 v_word_38) C hw (ct_X10_takeFrame l D cB cI cZ tw av a_this 0 v_size v_begins v_entries v_length v_pressed v_streamFrames v_zeros v_level v_sum v_tail 1 v_found_11 v_strange_15 v_innerFails_17 v_outerFails_28 v_mostMarks_29 v_unsure_41 v_may v_mocks v_sumThen v_got_42 v_outerMarks_31 v_outers_33 v_sure_43 x4_40 (v_unsure_46, v_got_47, v_sure_48) hq_49) cal_X10_takeFrame tw_1434 (q0 := 0) rfl rfl [0, 5, 11, 13, 17] [1, 2, 3, 4, 6, 7, 8, 9, 10, 12, 14, 15, 16, 18, 19, 20] 21 [((av 37), .inl (cI, 640, .inl v_beside_12)), ((av 13), .inl (cB, 360000, .inl v_bits)), ((av 2), .inl (cI, 16384, .inl v_bytesOf)), ((av 36), .inl (cI, 640, .inl v_foundAt_13)), ((av 29), .inl (cZ, 20480, .inl v_innerMarks_18)), ((av 30), .inl (cI, 640, .inl v_innerTold_19)), ((av 28), .inl (cI, 20480, .inl v_inners_20)), ((av 4), .inl (cI, 256, .inl v_logs)), ((av 23), .inl (cZ, 32, .inl v_marked_30)), ((av 33), .inl (cI, 640, .inl v_outerTold_32)), ((av 25), .inl (cI, 4, .inl v_places_34)), ((av 3), .inl (cI, 512, .inl v_powers)), ((av 27), .inl (cI, 20, .inl v_rows_35)), ((av 24), .inl (cI, 4, .inl v_syndromes_36)), ((av 26), .inl (cI, 4, .inl v_values_37)), ((av 22), .inl (cI, 32, .inl v_word_38))] rfl rfl rfl rfl rfl rfl rfl rfl rfl rfl rfl (Nat.le_of_ble_eq_true rfl) hl.1 ⟨Nat.le_of_ble_eq_true rfl, Nat.le_of_ble_eq_true rfl⟩ ⟨Nat.zero_le _, Nat.zero_le _⟩ dX10_play_228 (fun H locs hw => ?_)
                      obtain ⟨x4_50, ex4_50⟩ : ∃ y : Int32, y = x4_40 + 1 := ⟨_, rfl⟩
                      have h := nm_at ex4_50 h
                      refine lv_iinc (pc := 231) (v := x4_50) (lv' := [(4, .int x4_50), (0, .ref a_this)]) hx hb dX10_play_231 hl (k := 0) rfl (by rw [ex4_50]; rfl) (by decide) rfl (fun ls hl => ?_)
                      refine lv_goto (pc := 234) (tgt := 216) hx hb dX10_play_234 (by decide) ?_
                      exact ih216_44 x4_50 v_unsure_46 v_got_47 v_sure_48 ls _ _ (lv_sub hl [0, 1] rfl) hw h
                exact Lih216_44 FU 0 0 v_got v_sure ls _ _ (lv_sub hl [0, 1] rfl) hw h
              have Lih191_63 : ∀ (F : Nat) (x4_51 : Int32) (v_outerFails_52 : Int32) (v_mostMarks_53 : Int32) (v_marked_54 : Nat → Int32) (v_outerMarks_55 : Nat → Int32) (v_outerTold_56 : Nat → Int32) (v_outers_57 : Nat → Int32) (v_places_58 : Nat → Int32) (v_rows_59 : Nat → Int32) (v_syndromes_60 : Nat → Int32) (v_values_61 : Nat → Int32) (v_word_62 : Nat → Int32) (ls : Array Slot) (H : Heap) (locs : List Loc), lv_has ls 6 [(4, .int x4_51), (0, .ref a_this), (2, .int x2)] → Wd D A s (wX10_play cB cI cZ av a_this 0 v_size v_begins v_entries v_length v_pressed v_streamFrames v_zeros v_level v_sum v_tail 1 v_found_11 v_strange_15 v_innerFails_17 v_outerFails_52 v_mostMarks_53 0 v_may v_mocks v_sumThen v_beside_12 v_bits v_bytesOf v_foundAt_13 v_got v_innerMarks_18 v_innerTold_19 v_inners_20 v_logs v_marked_54 v_outerMarks_55 v_outerTold_56 v_outers_57 v_places_58 v_powers v_rows_59 v_sure v_syndromes_60 v_values_61 v_word_62) H locs → fX10_play_L191 v_found_11 j213_39 v_innerMarks_18 v_inners_20 v_logs v_powers x2 F x4_51 v_outerFails_52 v_mostMarks_53 v_marked_54 v_outerMarks_55 v_outerTold_56 v_outers_57 v_places_58 v_rows_59 v_syndromes_60 v_values_61 v_word_62 = some res → W p l e (rmK 5 112) s m ([.ref a_this, .int x1, .int x2, .int x3] : List Value).toArray below meth c H locs 0 0 (MQ below (QG D (tyL cB cI cZ) A (fun res : Int32 × Int32 × Int32 × Int32 × Int32 × Int32 × Int32 × Int32 × Int32 × (Nat → Int32) × (Nat → Int32) × (Nat → Int32) × (Nat → Int32) × (Nat → Int32) × (Nat → Int32) × (Nat → Int32) × (Nat → Int32) × (Nat → Int32) × (Nat → Int32) × (Nat → Int32) × (Nat → Int32) × (Nat → Int32) × (Nat → Int32) × (Nat → Int32) × (Nat → Int32) => some (.int res.1)) (fun res : Int32 × Int32 × Int32 × Int32 × Int32 × Int32 × Int32 × Int32 × Int32 × (Nat → Int32) × (Nat → Int32) × (Nat → Int32) × (Nat → Int32) × (Nat → Int32) × (Nat → Int32) × (Nat → Int32) × (Nat → Int32) × (Nat → Int32) × (Nat → Int32) × (Nat → Int32) × (Nat → Int32) × (Nat → Int32) × (Nat → Int32) × (Nat → Int32) × (Nat → Int32) => (wX10_play cB cI cZ av a_this (res.2.2.2.2.2.2.2.1) v_size v_begins v_entries v_length v_pressed v_streamFrames v_zeros v_level v_sum v_tail (res.2.2.2.1) (res.2.1) (res.2.2.2.2.2.2.1) (res.2.2.1) (res.2.2.2.2.2.1) (res.2.2.2.2.1) (res.2.2.2.2.2.2.2.2.1) v_may v_mocks v_sumThen (res.2.2.2.2.2.2.2.2.2.1) v_bits v_bytesOf (res.2.2.2.2.2.2.2.2.2.2.1) (res.2.2.2.2.2.2.2.2.2.2.2.1) (res.2.2.2.2.2.2.2.2.2.2.2.2.1) (res.2.2.2.2.2.2.2.2.2.2.2.2.2.1) (res.2.2.2.2.2.2.2.2.2.2.2.2.2.2.1) v_logs (res.2.2.2.2.2.2.2.2.2.2.2.2.2.2.2.1) (res.2.2.2.2.2.2.2.2.2.2.2.2.2.2.2.2.1) (res.2.2.2.2.2.2.2.2.2.2.2.2.2.2.2.2.2.1) (res.2.2.2.2.2.2.2.2.2.2.2.2.2.2.2.2.2.2.1) (res.2.2.2.2.2.2.2.2.2.2.2.2.2.2.2.2.2.2.2.1) v_powers (res.2.2.2.2.2.2.2.2.2.2.2.2.2.2.2.2.2.2.2.2.1) (res.2.2.2.2.2.2.2.2.2.2.2.2.2.2.2.2.2.2.2.2.2.1) (res.2.2.2.2.2.2.2.2.2.2.2.2.2.2.2.2.2.2.2.2.2.2.1) (res.2.2.2.2.2.2.2.2.2.2.2.2.2.2.2.2.2.2.2.2.2.2.2.1) (res.2.2.2.2.2.2.2.2.2.2.2.2.2.2.2.2.2.2.2.2.2.2.2.2))) res) ([.ref a_this, .int x1, .int x2, .int x3] : List Value).toArray s 0 0 A) (F0 m 191 ls []) := by
                intro F
                induction F with
                | zero => intro x4_51 v_outerFails_52 v_mostMarks_53 v_marked_54 v_outerMarks_55 v_outerTold_56 v_outers_57 v_places_58 v_rows_59 v_syndromes_60 v_values_61 v_word_62 ls H locs hl hw h; rw [fX10_play_L191.eq_1] at h; cases h
                | succ F191_63 ih191_63 =>
                  intro x4_51 v_outerFails_52 v_mostMarks_53 v_marked_54 v_outerMarks_55 v_outerTold_56 v_outers_57 v_places_58 v_rows_59 v_syndromes_60 v_values_61 v_word_62 ls H locs hl hw h
                  rw [fX10_play_L191.eq_2] at h
                  refine lv_iload (pc := 191) hx hb dX10_play_191 (lv_at hl 0 rfl) ?_
                  refine lv_aload_n (pc := 193) hx hb dX10_play_193 rfl (lv_at hl 1 rfl) ?_
                  refine gf_X10_296 (pc := 194) C hw 0 rfl rfl dX10_play_194 ?_
                  refine lv_icmp_ge (pc := 197) (tgt := 213) hx hb dX10_play_197 (by decide) (fun hc_64 => ?_) (fun hc_64 => ?_)
                  · have h := ift hc_64 h
                    exact J213_39 v_outerFails_52 v_mostMarks_53 v_marked_54 v_outerMarks_55 v_outerTold_56 v_outers_57 v_places_58 v_rows_59 v_syndromes_60 v_values_61 v_word_62 ls _ _ (lv_sub hl [1] rfl) hw h
                  · have h := iff' hc_64 h
                    refine lv_aload_n (pc := 200) hx hb dX10_play_200 rfl (lv_at hl 1 rfl) ?_
                    refine lv_iload (pc := 201) hx hb dX10_play_201 (lv_at hl 0 rfl) ?_
                    refine lv_iload_n (pc := 203) hx hb dX10_play_203 rfl (lv_at hl 2 rfl) ?_
                    obtain ⟨v_mostMarks_65, v_outerFails_66, v_marked_67, v_outerMarks_68, v_outerTold_69, v_outers_70, v_places_71, v_rows_72, v_syndromes_73, v_values_74, v_word_75, hq_76, h⟩ := ob11_at h
                    refine x_callV (pc := 204) (rest := []) (stk := []) (wX10_play cB cI cZ av a_this 0 v_size v_begins v_entries v_length v_pressed v_streamFrames v_zeros v_level v_sum v_tail 1 v_found_11 v_strange_15 v_innerFails_17 v_outerFails_66 v_mostMarks_65 0 v_may v_mocks v_sumThen v_beside_12 v_bits v_bytesOf v_foundAt_13 v_got v_innerMarks_18 v_innerTold_19 v_inners_20 v_logs v_marked_67 v_outerMarks_68 v_outerTold_69 v_outers_70 v_places_71 v_powers v_rows_72 v_sure v_syndromes_73 v_values_74 v_word_75) C hw (ct_X10_playOuter l D cB cI cZ tw av a_this 0 v_size v_begins v_entries v_length v_pressed v_streamFrames v_zeros v_level v_sum v_tail 1 v_found_11 v_strange_15 v_innerFails_17 v_outerFails_52 v_mostMarks_53 0 v_may v_mocks v_sumThen v_innerMarks_18 v_inners_20 v_logs v_marked_54 v_outerMarks_55 v_outerTold_56 v_outers_57 v_places_58 v_powers v_rows_59 v_syndromes_60 v_values_61 v_word_62 x4_51 x2 (v_mostMarks_65, v_outerFails_66, v_marked_67, v_outerMarks_68, v_outerTold_69, v_outers_70, v_places_71, v_rows_72, v_syndromes_73, v_values_74, v_word_75) hq_76) cal_X10_playOuter tw_1430 (q0 := 0) rfl rfl [0, 6, 8, 9, 10, 11, 12, 13, 14, 15, 16, 18, 19, 20] [1, 2, 3, 4, 5, 7, 17] 21 [((av 37), .inl (cI, 640, .inl v_beside_12)), ((av 13), .inl (cB, 360000, .inl v_bits)), ((av 2), .inl (cI, 16384, .inl v_bytesOf)), ((av 36), .inl (cI, 640, .inl v_foundAt_13)), ((av 42), .inl (cI, 11736, .inl v_got)), ((av 30), .inl (cI, 640, .inl v_innerTold_19)), ((av 43), .inl (cZ, 11736, .inl v_sure))] rfl rfl rfl rfl rfl rfl rfl rfl rfl rfl rfl (Nat.le_of_ble_eq_true rfl) hl.1 ⟨Nat.le_of_ble_eq_true rfl, Nat.le_of_ble_eq_true rfl⟩ ⟨Nat.zero_le _, Nat.zero_le _⟩ dX10_play_204 (fun H locs hw => ?_)
                    obtain ⟨x4_77, ex4_77⟩ : ∃ y : Int32, y = x4_51 + 1 := ⟨_, rfl⟩
                    have h := nm_at ex4_77 h
                    refine lv_iinc (pc := 207) (v := x4_77) (lv' := [(4, .int x4_77), (0, .ref a_this), (2, .int x2)]) hx hb dX10_play_207 hl (k := 0) rfl (by rw [ex4_77]; rfl) (by decide) rfl (fun ls hl => ?_)
                    refine lv_goto (pc := 210) (tgt := 191) hx hb dX10_play_210 (by decide) ?_
                    exact ih191_63 x4_77 v_outerFails_66 v_mostMarks_65 v_marked_67 v_outerMarks_68 v_outerTold_69 v_outers_70 v_places_71 v_rows_72 v_syndromes_73 v_values_74 v_word_75 ls _ _ (lv_sub hl [0, 1, 2] rfl) hw h
              exact Lih191_63 FU 0 0 0 v_marked_21 v_outerMarks v_outerTold v_outers v_places_22 v_rows_23 v_syndromes_24 v_values_25 v_word_26 ls _ _ (lv_sub hl [0, 1, 2] rfl) hw h
            have Lih166_89 : ∀ (F : Nat) (x4_78 : Int32) (v_innerFails_79 : Int32) (v_innerMarks_80 : Nat → Int32) (v_innerTold_81 : Nat → Int32) (v_inners_82 : Nat → Int32) (v_marked_83 : Nat → Int32) (v_places_84 : Nat → Int32) (v_rows_85 : Nat → Int32) (v_syndromes_86 : Nat → Int32) (v_values_87 : Nat → Int32) (v_word_88 : Nat → Int32) (ls : Array Slot) (H : Heap) (locs : List Loc), lv_has ls 6 [(4, .int x4_78), (0, .ref a_this), (1, .int x1), (2, .int x2)] → Wd D A s (wX10_play cB cI cZ av a_this 0 v_size v_begins v_entries v_length v_pressed v_streamFrames v_zeros v_level v_sum v_tail 1 v_found_11 v_strange_15 v_innerFails_79 0 0 0 v_may v_mocks v_sumThen v_beside_12 v_bits v_bytesOf v_foundAt_13 v_got v_innerMarks_80 v_innerTold_81 v_inners_82 v_logs v_marked_83 v_outerMarks v_outerTold v_outers v_places_84 v_powers v_rows_85 v_sure v_syndromes_86 v_values_87 v_word_88) H locs → fX10_play_L166 v_found_11 j188_27 v_length v_bits v_bytesOf v_foundAt_13 v_logs v_powers x1 F x4_78 v_innerFails_79 v_innerMarks_80 v_innerTold_81 v_inners_82 v_marked_83 v_places_84 v_rows_85 v_syndromes_86 v_values_87 v_word_88 = some res → W p l e (rmK 5 112) s m ([.ref a_this, .int x1, .int x2, .int x3] : List Value).toArray below meth c H locs 0 0 (MQ below (QG D (tyL cB cI cZ) A (fun res : Int32 × Int32 × Int32 × Int32 × Int32 × Int32 × Int32 × Int32 × Int32 × (Nat → Int32) × (Nat → Int32) × (Nat → Int32) × (Nat → Int32) × (Nat → Int32) × (Nat → Int32) × (Nat → Int32) × (Nat → Int32) × (Nat → Int32) × (Nat → Int32) × (Nat → Int32) × (Nat → Int32) × (Nat → Int32) × (Nat → Int32) × (Nat → Int32) × (Nat → Int32) => some (.int res.1)) (fun res : Int32 × Int32 × Int32 × Int32 × Int32 × Int32 × Int32 × Int32 × Int32 × (Nat → Int32) × (Nat → Int32) × (Nat → Int32) × (Nat → Int32) × (Nat → Int32) × (Nat → Int32) × (Nat → Int32) × (Nat → Int32) × (Nat → Int32) × (Nat → Int32) × (Nat → Int32) × (Nat → Int32) × (Nat → Int32) × (Nat → Int32) × (Nat → Int32) × (Nat → Int32) => (wX10_play cB cI cZ av a_this (res.2.2.2.2.2.2.2.1) v_size v_begins v_entries v_length v_pressed v_streamFrames v_zeros v_level v_sum v_tail (res.2.2.2.1) (res.2.1) (res.2.2.2.2.2.2.1) (res.2.2.1) (res.2.2.2.2.2.1) (res.2.2.2.2.1) (res.2.2.2.2.2.2.2.2.1) v_may v_mocks v_sumThen (res.2.2.2.2.2.2.2.2.2.1) v_bits v_bytesOf (res.2.2.2.2.2.2.2.2.2.2.1) (res.2.2.2.2.2.2.2.2.2.2.2.1) (res.2.2.2.2.2.2.2.2.2.2.2.2.1) (res.2.2.2.2.2.2.2.2.2.2.2.2.2.1) (res.2.2.2.2.2.2.2.2.2.2.2.2.2.2.1) v_logs (res.2.2.2.2.2.2.2.2.2.2.2.2.2.2.2.1) (res.2.2.2.2.2.2.2.2.2.2.2.2.2.2.2.2.1) (res.2.2.2.2.2.2.2.2.2.2.2.2.2.2.2.2.2.1) (res.2.2.2.2.2.2.2.2.2.2.2.2.2.2.2.2.2.2.1) (res.2.2.2.2.2.2.2.2.2.2.2.2.2.2.2.2.2.2.2.1) v_powers (res.2.2.2.2.2.2.2.2.2.2.2.2.2.2.2.2.2.2.2.2.1) (res.2.2.2.2.2.2.2.2.2.2.2.2.2.2.2.2.2.2.2.2.2.1) (res.2.2.2.2.2.2.2.2.2.2.2.2.2.2.2.2.2.2.2.2.2.2.1) (res.2.2.2.2.2.2.2.2.2.2.2.2.2.2.2.2.2.2.2.2.2.2.2.1) (res.2.2.2.2.2.2.2.2.2.2.2.2.2.2.2.2.2.2.2.2.2.2.2.2))) res) ([.ref a_this, .int x1, .int x2, .int x3] : List Value).toArray s 0 0 A) (F0 m 166 ls []) := by
              intro F
              induction F with
              | zero => intro x4_78 v_innerFails_79 v_innerMarks_80 v_innerTold_81 v_inners_82 v_marked_83 v_places_84 v_rows_85 v_syndromes_86 v_values_87 v_word_88 ls H locs hl hw h; rw [fX10_play_L166.eq_1] at h; cases h
              | succ F166_89 ih166_89 =>
                intro x4_78 v_innerFails_79 v_innerMarks_80 v_innerTold_81 v_inners_82 v_marked_83 v_places_84 v_rows_85 v_syndromes_86 v_values_87 v_word_88 ls H locs hl hw h
                rw [fX10_play_L166.eq_2] at h
                refine lv_iload (pc := 166) hx hb dX10_play_166 (lv_at hl 0 rfl) ?_
                refine lv_aload_n (pc := 168) hx hb dX10_play_168 rfl (lv_at hl 1 rfl) ?_
                refine gf_X10_296 (pc := 169) C hw 0 rfl rfl dX10_play_169 ?_
                refine lv_icmp_ge (pc := 172) (tgt := 188) hx hb dX10_play_172 (by decide) (fun hc_90 => ?_) (fun hc_90 => ?_)
                · have h := ift hc_90 h
                  exact J188_27 v_innerFails_79 v_innerMarks_80 v_innerTold_81 v_inners_82 v_marked_83 v_places_84 v_rows_85 v_syndromes_86 v_values_87 v_word_88 ls _ _ (lv_sub hl [1, 3] rfl) hw h
                · have h := iff' hc_90 h
                  refine lv_aload_n (pc := 175) hx hb dX10_play_175 rfl (lv_at hl 1 rfl) ?_
                  refine lv_iload (pc := 176) hx hb dX10_play_176 (lv_at hl 0 rfl) ?_
                  refine lv_iload_n (pc := 178) hx hb dX10_play_178 rfl (lv_at hl 2 rfl) ?_
                  obtain ⟨v_innerFails_91, v_innerMarks_92, v_innerTold_93, v_inners_94, v_marked_95, v_places_96, v_rows_97, v_syndromes_98, v_values_99, v_word_100, hq_101, h⟩ := ob10_at h
                  refine x_callV (pc := 179) (rest := []) (stk := []) (wX10_play cB cI cZ av a_this 0 v_size v_begins v_entries v_length v_pressed v_streamFrames v_zeros v_level v_sum v_tail 1 v_found_11 v_strange_15 v_innerFails_91 0 0 0 v_may v_mocks v_sumThen v_beside_12 v_bits v_bytesOf v_foundAt_13 v_got v_innerMarks_92 v_innerTold_93 v_inners_94 v_logs v_marked_95 v_outerMarks v_outerTold v_outers v_places_96 v_powers v_rows_97 v_sure v_syndromes_98 v_values_99 v_word_100) C hw (ct_X10_playInner l D cB cI cZ tw av a_this 0 v_size v_begins v_entries v_length v_pressed v_streamFrames v_zeros v_level v_sum v_tail 1 v_found_11 v_strange_15 v_innerFails_79 0 0 0 v_may v_mocks v_sumThen v_bits v_bytesOf v_foundAt_13 v_innerMarks_80 v_innerTold_81 v_inners_82 v_logs v_marked_83 v_places_84 v_powers v_rows_85 v_syndromes_86 v_values_87 v_word_88 x4_78 x1 (v_innerFails_91, v_innerMarks_92, v_innerTold_93, v_inners_94, v_marked_95, v_places_96, v_rows_97, v_syndromes_98, v_values_99, v_word_100) hq_101) cal_X10_playInner tw_1422 (q0 := 0) rfl rfl [0, 2, 3, 4, 6, 7, 8, 9, 10, 14, 15, 16, 18, 19, 20] [1, 5, 11, 12, 13, 17] 21 [((av 37), .inl (cI, 640, .inl v_beside_12)), ((av 42), .inl (cI, 11736, .inl v_got)), ((av 32), .inl (cZ, 17920, .inl v_outerMarks)), ((av 33), .inl (cI, 640, .inl v_outerTold)), ((av 31), .inl (cI, 17920, .inl v_outers)), ((av 43), .inl (cZ, 11736, .inl v_sure))] rfl rfl rfl rfl rfl rfl rfl rfl rfl rfl rfl (Nat.le_of_ble_eq_true rfl) hl.1 ⟨Nat.le_of_ble_eq_true rfl, Nat.le_of_ble_eq_true rfl⟩ ⟨Nat.zero_le _, Nat.zero_le _⟩ dX10_play_179 (fun H locs hw => ?_)
                  obtain ⟨x4_102, ex4_102⟩ : ∃ y : Int32, y = x4_78 + 1 := ⟨_, rfl⟩
                  have h := nm_at ex4_102 h
                  refine lv_iinc (pc := 182) (v := x4_102) (lv' := [(4, .int x4_102), (0, .ref a_this), (1, .int x1), (2, .int x2)]) hx hb dX10_play_182 hl (k := 0) rfl (by rw [ex4_102]; rfl) (by decide) rfl (fun ls hl => ?_)
                  refine lv_goto (pc := 185) (tgt := 166) hx hb dX10_play_185 (by decide) ?_
                  exact ih166_89 x4_102 v_innerFails_91 v_innerMarks_92 v_innerTold_93 v_inners_94 v_marked_95 v_places_96 v_rows_97 v_syndromes_98 v_values_99 v_word_100 ls _ _ (lv_sub hl [0, 1, 2, 3] rfl) hw h
            exact Lih166_89 FU 0 0 v_innerMarks v_innerTold v_inners v_marked v_places v_rows v_syndromes v_values v_word ls _ _ (lv_sub hl [0, 1, 2, 3] rfl) hw h
          have Lih88_105 : ∀ (F : Nat) (x4_103 : Int32) (v_strange_104 : Int32) (ls : Array Slot) (H : Heap) (locs : List Loc), lv_has ls 6 [(4, .int x4_103), (0, .ref a_this), (1, .int x1), (2, .int x2)] → Wd D A s (wX10_play cB cI cZ av a_this 0 v_size v_begins v_entries v_length v_pressed v_streamFrames v_zeros v_level v_sum v_tail 1 v_found_11 v_strange_104 0 0 0 0 v_may v_mocks v_sumThen v_beside_12 v_bits v_bytesOf v_foundAt_13 v_got v_innerMarks v_innerTold v_inners v_logs v_marked v_outerMarks v_outerTold v_outers v_places v_powers v_rows v_sure v_syndromes v_values v_word) H locs → fX10_play_L88 v_found_11 j163_16 v_length v_bits v_foundAt_13 v_bytesOf F x4_103 v_strange_104 = some res → W p l e (rmK 5 112) s m ([.ref a_this, .int x1, .int x2, .int x3] : List Value).toArray below meth c H locs 0 0 (MQ below (QG D (tyL cB cI cZ) A (fun res : Int32 × Int32 × Int32 × Int32 × Int32 × Int32 × Int32 × Int32 × Int32 × (Nat → Int32) × (Nat → Int32) × (Nat → Int32) × (Nat → Int32) × (Nat → Int32) × (Nat → Int32) × (Nat → Int32) × (Nat → Int32) × (Nat → Int32) × (Nat → Int32) × (Nat → Int32) × (Nat → Int32) × (Nat → Int32) × (Nat → Int32) × (Nat → Int32) × (Nat → Int32) => some (.int res.1)) (fun res : Int32 × Int32 × Int32 × Int32 × Int32 × Int32 × Int32 × Int32 × Int32 × (Nat → Int32) × (Nat → Int32) × (Nat → Int32) × (Nat → Int32) × (Nat → Int32) × (Nat → Int32) × (Nat → Int32) × (Nat → Int32) × (Nat → Int32) × (Nat → Int32) × (Nat → Int32) × (Nat → Int32) × (Nat → Int32) × (Nat → Int32) × (Nat → Int32) × (Nat → Int32) => (wX10_play cB cI cZ av a_this (res.2.2.2.2.2.2.2.1) v_size v_begins v_entries v_length v_pressed v_streamFrames v_zeros v_level v_sum v_tail (res.2.2.2.1) (res.2.1) (res.2.2.2.2.2.2.1) (res.2.2.1) (res.2.2.2.2.2.1) (res.2.2.2.2.1) (res.2.2.2.2.2.2.2.2.1) v_may v_mocks v_sumThen (res.2.2.2.2.2.2.2.2.2.1) v_bits v_bytesOf (res.2.2.2.2.2.2.2.2.2.2.1) (res.2.2.2.2.2.2.2.2.2.2.2.1) (res.2.2.2.2.2.2.2.2.2.2.2.2.1) (res.2.2.2.2.2.2.2.2.2.2.2.2.2.1) (res.2.2.2.2.2.2.2.2.2.2.2.2.2.2.1) v_logs (res.2.2.2.2.2.2.2.2.2.2.2.2.2.2.2.1) (res.2.2.2.2.2.2.2.2.2.2.2.2.2.2.2.2.1) (res.2.2.2.2.2.2.2.2.2.2.2.2.2.2.2.2.2.1) (res.2.2.2.2.2.2.2.2.2.2.2.2.2.2.2.2.2.2.1) (res.2.2.2.2.2.2.2.2.2.2.2.2.2.2.2.2.2.2.2.1) v_powers (res.2.2.2.2.2.2.2.2.2.2.2.2.2.2.2.2.2.2.2.2.1) (res.2.2.2.2.2.2.2.2.2.2.2.2.2.2.2.2.2.2.2.2.2.1) (res.2.2.2.2.2.2.2.2.2.2.2.2.2.2.2.2.2.2.2.2.2.2.1) (res.2.2.2.2.2.2.2.2.2.2.2.2.2.2.2.2.2.2.2.2.2.2.2.1) (res.2.2.2.2.2.2.2.2.2.2.2.2.2.2.2.2.2.2.2.2.2.2.2.2))) res) ([.ref a_this, .int x1, .int x2, .int x3] : List Value).toArray s 0 0 A) (F0 m 88 ls []) := by
            intro F
            induction F with
            | zero => intro x4_103 v_strange_104 ls H locs hl hw h; rw [fX10_play_L88.eq_1] at h; cases h
            | succ F88_105 ih88_105 =>
              intro x4_103 v_strange_104 ls H locs hl hw h
              rw [fX10_play_L88.eq_2] at h
              refine lv_iload (pc := 88) hx hb dX10_play_88 (lv_at hl 0 rfl) ?_
              refine lv_aload_n (pc := 90) hx hb dX10_play_90 rfl (lv_at hl 1 rfl) ?_
              refine gf_X10_296 (pc := 91) C hw 0 rfl rfl dX10_play_91 ?_
              refine lv_icmp_ge (pc := 94) (tgt := 163) hx hb dX10_play_94 (by decide) (fun hc_106 => ?_) (fun hc_106 => ?_)
              · have h := ift hc_106 h
                exact J163_16 v_strange_104 ls _ _ (lv_sub hl [1, 2, 3] rfl) hw h
              · have h := iff' hc_106 h
                refine lv_iconst (pc := 97) (v := 0) hx hb dX10_play_97 (by decide) ?_
                refine lv_istore (pc := 98) (lv' := [(5, .int 0), (4, .int x4_103), (0, .ref a_this), (1, .int x1), (2, .int x2)]) hx hb dX10_play_98 hl (by decide) rfl (fun ls hl => ?_)
                obtain ⟨j157_108, ej157_108, h⟩ := jk_at h
                have J157_108 : ∀ (v_strange_107 : Int32) (ls : Array Slot) (H : Heap) (locs : List Loc), lv_has ls 6 [(4, .int x4_103), (0, .ref a_this), (1, .int x1), (2, .int x2)] → Wd D A s (wX10_play cB cI cZ av a_this 0 v_size v_begins v_entries v_length v_pressed v_streamFrames v_zeros v_level v_sum v_tail 1 v_found_11 v_strange_107 0 0 0 0 v_may v_mocks v_sumThen v_beside_12 v_bits v_bytesOf v_foundAt_13 v_got v_innerMarks v_innerTold v_inners v_logs v_marked v_outerMarks v_outerTold v_outers v_places v_powers v_rows v_sure v_syndromes v_values v_word) H locs → j157_108 v_strange_107 = some res → W p l e (rmK 5 112) s m ([.ref a_this, .int x1, .int x2, .int x3] : List Value).toArray below meth c H locs 0 0 (MQ below (QG D (tyL cB cI cZ) A (fun res : Int32 × Int32 × Int32 × Int32 × Int32 × Int32 × Int32 × Int32 × Int32 × (Nat → Int32) × (Nat → Int32) × (Nat → Int32) × (Nat → Int32) × (Nat → Int32) × (Nat → Int32) × (Nat → Int32) × (Nat → Int32) × (Nat → Int32) × (Nat → Int32) × (Nat → Int32) × (Nat → Int32) × (Nat → Int32) × (Nat → Int32) × (Nat → Int32) × (Nat → Int32) => some (.int res.1)) (fun res : Int32 × Int32 × Int32 × Int32 × Int32 × Int32 × Int32 × Int32 × Int32 × (Nat → Int32) × (Nat → Int32) × (Nat → Int32) × (Nat → Int32) × (Nat → Int32) × (Nat → Int32) × (Nat → Int32) × (Nat → Int32) × (Nat → Int32) × (Nat → Int32) × (Nat → Int32) × (Nat → Int32) × (Nat → Int32) × (Nat → Int32) × (Nat → Int32) × (Nat → Int32) => (wX10_play cB cI cZ av a_this (res.2.2.2.2.2.2.2.1) v_size v_begins v_entries v_length v_pressed v_streamFrames v_zeros v_level v_sum v_tail (res.2.2.2.1) (res.2.1) (res.2.2.2.2.2.2.1) (res.2.2.1) (res.2.2.2.2.2.1) (res.2.2.2.2.1) (res.2.2.2.2.2.2.2.2.1) v_may v_mocks v_sumThen (res.2.2.2.2.2.2.2.2.2.1) v_bits v_bytesOf (res.2.2.2.2.2.2.2.2.2.2.1) (res.2.2.2.2.2.2.2.2.2.2.2.1) (res.2.2.2.2.2.2.2.2.2.2.2.2.1) (res.2.2.2.2.2.2.2.2.2.2.2.2.2.1) (res.2.2.2.2.2.2.2.2.2.2.2.2.2.2.1) v_logs (res.2.2.2.2.2.2.2.2.2.2.2.2.2.2.2.1) (res.2.2.2.2.2.2.2.2.2.2.2.2.2.2.2.2.1) (res.2.2.2.2.2.2.2.2.2.2.2.2.2.2.2.2.2.1) (res.2.2.2.2.2.2.2.2.2.2.2.2.2.2.2.2.2.2.1) (res.2.2.2.2.2.2.2.2.2.2.2.2.2.2.2.2.2.2.2.1) v_powers (res.2.2.2.2.2.2.2.2.2.2.2.2.2.2.2.2.2.2.2.2.1) (res.2.2.2.2.2.2.2.2.2.2.2.2.2.2.2.2.2.2.2.2.2.1) (res.2.2.2.2.2.2.2.2.2.2.2.2.2.2.2.2.2.2.2.2.2.2.1) (res.2.2.2.2.2.2.2.2.2.2.2.2.2.2.2.2.2.2.2.2.2.2.2.1) (res.2.2.2.2.2.2.2.2.2.2.2.2.2.2.2.2.2.2.2.2.2.2.2.2))) res) ([.ref a_this, .int x1, .int x2, .int x3] : List Value).toArray s 0 0 A) (F0 m 157 ls []) := by
                  intro v_strange_107 ls H locs hl hw h
                  have h := k1_at ej157_108 h
                  obtain ⟨x4_109, ex4_109⟩ : ∃ y : Int32, y = x4_103 + 1 := ⟨_, rfl⟩
                  have h := nm_at ex4_109 h
                  refine lv_iinc (pc := 157) (v := x4_109) (lv' := [(4, .int x4_109), (0, .ref a_this), (1, .int x1), (2, .int x2)]) hx hb dX10_play_157 hl (k := 0) rfl (by rw [ex4_109]; rfl) (by decide) rfl (fun ls hl => ?_)
                  refine lv_goto (pc := 160) (tgt := 88) hx hb dX10_play_160 (by decide) ?_
                  exact ih88_105 x4_109 v_strange_107 ls _ _ (lv_sub hl [0, 1, 2, 3] rfl) hw h
                have Lih100_112 : ∀ (F : Nat) (x5_110 : Int32) (v_strange_111 : Int32) (ls : Array Slot) (H : Heap) (locs : List Loc), lv_has ls 6 [(5, .int x5_110), (4, .int x4_103), (0, .ref a_this), (1, .int x1), (2, .int x2)] → Wd D A s (wX10_play cB cI cZ av a_this 0 v_size v_begins v_entries v_length v_pressed v_streamFrames v_zeros v_level v_sum v_tail 1 v_found_11 v_strange_111 0 0 0 0 v_may v_mocks v_sumThen v_beside_12 v_bits v_bytesOf v_foundAt_13 v_got v_innerMarks v_innerTold v_inners v_logs v_marked v_outerMarks v_outerTold v_outers v_places v_powers v_rows v_sure v_syndromes v_values v_word) H locs → fX10_play_L100 j157_108 x4_103 v_length v_bits v_foundAt_13 v_bytesOf F x5_110 v_strange_111 = some res → W p l e (rmK 5 112) s m ([.ref a_this, .int x1, .int x2, .int x3] : List Value).toArray below meth c H locs 0 0 (MQ below (QG D (tyL cB cI cZ) A (fun res : Int32 × Int32 × Int32 × Int32 × Int32 × Int32 × Int32 × Int32 × Int32 × (Nat → Int32) × (Nat → Int32) × (Nat → Int32) × (Nat → Int32) × (Nat → Int32) × (Nat → Int32) × (Nat → Int32) × (Nat → Int32) × (Nat → Int32) × (Nat → Int32) × (Nat → Int32) × (Nat → Int32) × (Nat → Int32) × (Nat → Int32) × (Nat → Int32) × (Nat → Int32) => some (.int res.1)) (fun res : Int32 × Int32 × Int32 × Int32 × Int32 × Int32 × Int32 × Int32 × Int32 × (Nat → Int32) × (Nat → Int32) × (Nat → Int32) × (Nat → Int32) × (Nat → Int32) × (Nat → Int32) × (Nat → Int32) × (Nat → Int32) × (Nat → Int32) × (Nat → Int32) × (Nat → Int32) × (Nat → Int32) × (Nat → Int32) × (Nat → Int32) × (Nat → Int32) × (Nat → Int32) => (wX10_play cB cI cZ av a_this (res.2.2.2.2.2.2.2.1) v_size v_begins v_entries v_length v_pressed v_streamFrames v_zeros v_level v_sum v_tail (res.2.2.2.1) (res.2.1) (res.2.2.2.2.2.2.1) (res.2.2.1) (res.2.2.2.2.2.1) (res.2.2.2.2.1) (res.2.2.2.2.2.2.2.2.1) v_may v_mocks v_sumThen (res.2.2.2.2.2.2.2.2.2.1) v_bits v_bytesOf (res.2.2.2.2.2.2.2.2.2.2.1) (res.2.2.2.2.2.2.2.2.2.2.2.1) (res.2.2.2.2.2.2.2.2.2.2.2.2.1) (res.2.2.2.2.2.2.2.2.2.2.2.2.2.1) (res.2.2.2.2.2.2.2.2.2.2.2.2.2.2.1) v_logs (res.2.2.2.2.2.2.2.2.2.2.2.2.2.2.2.1) (res.2.2.2.2.2.2.2.2.2.2.2.2.2.2.2.2.1) (res.2.2.2.2.2.2.2.2.2.2.2.2.2.2.2.2.2.1) (res.2.2.2.2.2.2.2.2.2.2.2.2.2.2.2.2.2.2.1) (res.2.2.2.2.2.2.2.2.2.2.2.2.2.2.2.2.2.2.2.1) v_powers (res.2.2.2.2.2.2.2.2.2.2.2.2.2.2.2.2.2.2.2.2.1) (res.2.2.2.2.2.2.2.2.2.2.2.2.2.2.2.2.2.2.2.2.2.1) (res.2.2.2.2.2.2.2.2.2.2.2.2.2.2.2.2.2.2.2.2.2.2.1) (res.2.2.2.2.2.2.2.2.2.2.2.2.2.2.2.2.2.2.2.2.2.2.2.1) (res.2.2.2.2.2.2.2.2.2.2.2.2.2.2.2.2.2.2.2.2.2.2.2.2))) res) ([.ref a_this, .int x1, .int x2, .int x3] : List Value).toArray s 0 0 A) (F0 m 100 ls []) := by
                  intro F
                  induction F with
                  | zero => intro x5_110 v_strange_111 ls H locs hl hw h; rw [fX10_play_L100.eq_1] at h; cases h
                  | succ F100_112 ih100_112 =>
                    intro x5_110 v_strange_111 ls H locs hl hw h
                    rw [fX10_play_L100.eq_2] at h
                    refine lv_iload (pc := 100) hx hb dX10_play_100 (lv_at hl 0 rfl) ?_
                    refine lv_bipush (pc := 102) (v := 32) hx hb dX10_play_102 (by decide) ?_
                    refine lv_icmp_ge (pc := 104) (tgt := 157) hx hb dX10_play_104 (by decide) (fun hc_113 => ?_) (fun hc_113 => ?_)
                    · have h := ift hc_113 h
                      exact J157_108 v_strange_111 ls _ _ (lv_sub hl [1, 2, 3, 4] rfl) hw h
                    · have h := iff' hc_113 h
                      refine lv_aload_n (pc := 107) hx hb dX10_play_107 rfl (lv_at hl 2 rfl) ?_
                      refine lv_dup (pc := 108) hx hb dX10_play_108 rfl ?_
                      refine gf_X10_321 (pc := 109) C hw 0 rfl rfl dX10_play_109 ?_
                      refine lv_aload_n (pc := 112) hx hb dX10_play_112 rfl (lv_at hl 2 rfl) ?_
                      refine gf_X10_13 (pc := 113) C hw 0 rfl rfl dX10_play_113 ?_
                      refine lv_aload_n (pc := 116) hx hb dX10_play_116 rfl (lv_at hl 2 rfl) ?_
                      refine lv_aload_n (pc := 117) hx hb dX10_play_117 rfl (lv_at hl 2 rfl) ?_
                      refine gf_X10_82 (pc := 118) C hw 0 rfl rfl dX10_play_118 ?_
                      refine lv_iload (pc := 121) hx hb dX10_play_121 (lv_at hl 1 rfl) ?_
                      obtain ⟨hi_114, h⟩ := og_at h
                      refine x_iald (pc := 123) C hw 4 rfl hi_114 dX10_play_123 ?_
                      refine lv_bipush (pc := 124) (v := 44) hx hb dX10_play_124 (by decide) ?_
                      refine lv_iadd (pc := 126) hx hb dX10_play_126 ?_
                      refine lv_bipush (pc := 127) (v := 17) hx hb dX10_play_127 (by decide) ?_
                      refine lv_iload (pc := 129) hx hb dX10_play_129 (lv_at hl 0 rfl) ?_
                      refine lv_imul (pc := 131) hx hb dX10_play_131 ?_
                      refine lv_iadd (pc := 132) hx hb dX10_play_132 ?_
                      refine lv_bipush (pc := 133) (v := 14) hx hb dX10_play_133 (by decide) ?_
                      obtain ⟨r_115, hq_116, h⟩ := ob1_at h
                      refine x_callV (pc := 135) (rest := [.ref (av 2), .int v_strange_111, .ref a_this]) (stk := [.int r_115, .ref (av 2), .int v_strange_111, .ref a_this]) (wX10_play cB cI cZ av a_this 0 v_size v_begins v_entries v_length v_pressed v_streamFrames v_zeros v_level v_sum v_tail 1 v_found_11 v_strange_111 0 0 0 0 v_may v_mocks v_sumThen v_beside_12 v_bits v_bytesOf v_foundAt_13 v_got v_innerMarks v_innerTold v_inners v_logs v_marked v_outerMarks v_outerTold v_outers v_places v_powers v_rows v_sure v_syndromes v_values v_word) C hw (ct_X10_taken l D cB cI cZ tw av a_this 0 v_size v_begins v_entries v_length v_pressed v_streamFrames v_zeros v_level v_sum v_tail 1 v_found_11 v_strange_111 0 0 0 0 v_may v_mocks v_sumThen v_bits (((v_foundAt_13 (Int32.toNatClampNeg x4_103)) + (44 : Int32)) + ((17 : Int32) * x5_110)) 14 r_115 hq_116) cal_X10_taken tw_1345 (q0 := 0) rfl rfl [0, 2] [1, 3, 4, 5, 6, 7, 8, 9, 10, 11, 12, 13, 14, 15, 16, 17, 18, 19, 20] 21 [((av 37), .inl (cI, 640, .inl v_beside_12)), ((av 2), .inl (cI, 16384, .inl v_bytesOf)), ((av 36), .inl (cI, 640, .inl v_foundAt_13)), ((av 42), .inl (cI, 11736, .inl v_got)), ((av 29), .inl (cZ, 20480, .inl v_innerMarks)), ((av 30), .inl (cI, 640, .inl v_innerTold)), ((av 28), .inl (cI, 20480, .inl v_inners)), ((av 4), .inl (cI, 256, .inl v_logs)), ((av 23), .inl (cZ, 32, .inl v_marked)), ((av 32), .inl (cZ, 17920, .inl v_outerMarks)), ((av 33), .inl (cI, 640, .inl v_outerTold)), ((av 31), .inl (cI, 17920, .inl v_outers)), ((av 25), .inl (cI, 4, .inl v_places)), ((av 3), .inl (cI, 512, .inl v_powers)), ((av 27), .inl (cI, 20, .inl v_rows)), ((av 43), .inl (cZ, 11736, .inl v_sure)), ((av 24), .inl (cI, 4, .inl v_syndromes)), ((av 26), .inl (cI, 4, .inl v_values)), ((av 22), .inl (cI, 32, .inl v_word))] rfl rfl rfl rfl rfl rfl rfl rfl rfl rfl rfl (Nat.le_of_ble_eq_true rfl) hl.1 ⟨Nat.le_of_ble_eq_true rfl, Nat.le_of_ble_eq_true rfl⟩ ⟨Nat.zero_le _, Nat.zero_le _⟩ dX10_play_135 (fun H locs hw => ?_)
                      obtain ⟨hi_117, h⟩ := og_at h
                      refine x_iald (pc := 138) C hw 3 rfl hi_117 dX10_play_138 ?_
                      obtain ⟨j147_119, ej147_119, h⟩ := jk_at h
                      have J147_119 : ∀ (t_118 : Int32) (ls : Array Slot) (H : Heap) (locs : List Loc), lv_has ls 6 [(5, .int x5_110), (4, .int x4_103), (0, .ref a_this), (1, .int x1), (2, .int x2)] → Wd D A s (wX10_play cB cI cZ av a_this 0 v_size v_begins v_entries v_length v_pressed v_streamFrames v_zeros v_level v_sum v_tail 1 v_found_11 v_strange_111 0 0 0 0 v_may v_mocks v_sumThen v_beside_12 v_bits v_bytesOf v_foundAt_13 v_got v_innerMarks v_innerTold v_inners v_logs v_marked v_outerMarks v_outerTold v_outers v_places v_powers v_rows v_sure v_syndromes v_values v_word) H locs → j147_119 t_118 = some res → W p l e (rmK 5 112) s m ([.ref a_this, .int x1, .int x2, .int x3] : List Value).toArray below meth c H locs 0 0 (MQ below (QG D (tyL cB cI cZ) A (fun res : Int32 × Int32 × Int32 × Int32 × Int32 × Int32 × Int32 × Int32 × Int32 × (Nat → Int32) × (Nat → Int32) × (Nat → Int32) × (Nat → Int32) × (Nat → Int32) × (Nat → Int32) × (Nat → Int32) × (Nat → Int32) × (Nat → Int32) × (Nat → Int32) × (Nat → Int32) × (Nat → Int32) × (Nat → Int32) × (Nat → Int32) × (Nat → Int32) × (Nat → Int32) => some (.int res.1)) (fun res : Int32 × Int32 × Int32 × Int32 × Int32 × Int32 × Int32 × Int32 × Int32 × (Nat → Int32) × (Nat → Int32) × (Nat → Int32) × (Nat → Int32) × (Nat → Int32) × (Nat → Int32) × (Nat → Int32) × (Nat → Int32) × (Nat → Int32) × (Nat → Int32) × (Nat → Int32) × (Nat → Int32) × (Nat → Int32) × (Nat → Int32) × (Nat → Int32) × (Nat → Int32) => (wX10_play cB cI cZ av a_this (res.2.2.2.2.2.2.2.1) v_size v_begins v_entries v_length v_pressed v_streamFrames v_zeros v_level v_sum v_tail (res.2.2.2.1) (res.2.1) (res.2.2.2.2.2.2.1) (res.2.2.1) (res.2.2.2.2.2.1) (res.2.2.2.2.1) (res.2.2.2.2.2.2.2.2.1) v_may v_mocks v_sumThen (res.2.2.2.2.2.2.2.2.2.1) v_bits v_bytesOf (res.2.2.2.2.2.2.2.2.2.2.1) (res.2.2.2.2.2.2.2.2.2.2.2.1) (res.2.2.2.2.2.2.2.2.2.2.2.2.1) (res.2.2.2.2.2.2.2.2.2.2.2.2.2.1) (res.2.2.2.2.2.2.2.2.2.2.2.2.2.2.1) v_logs (res.2.2.2.2.2.2.2.2.2.2.2.2.2.2.2.1) (res.2.2.2.2.2.2.2.2.2.2.2.2.2.2.2.2.1) (res.2.2.2.2.2.2.2.2.2.2.2.2.2.2.2.2.2.1) (res.2.2.2.2.2.2.2.2.2.2.2.2.2.2.2.2.2.2.1) (res.2.2.2.2.2.2.2.2.2.2.2.2.2.2.2.2.2.2.2.1) v_powers (res.2.2.2.2.2.2.2.2.2.2.2.2.2.2.2.2.2.2.2.2.1) (res.2.2.2.2.2.2.2.2.2.2.2.2.2.2.2.2.2.2.2.2.2.1) (res.2.2.2.2.2.2.2.2.2.2.2.2.2.2.2.2.2.2.2.2.2.2.1) (res.2.2.2.2.2.2.2.2.2.2.2.2.2.2.2.2.2.2.2.2.2.2.2.1) (res.2.2.2.2.2.2.2.2.2.2.2.2.2.2.2.2.2.2.2.2.2.2.2.2))) res) ([.ref a_this, .int x1, .int x2, .int x3] : List Value).toArray s 0 0 A) (F0 m 147 ls [.int t_118, .int v_strange_111, .ref a_this]) := by
                        intro t_118 ls H locs hl hw h
                        have h := k1_at ej147_119 h
                        refine lv_iadd (pc := 147) hx hb dX10_play_147 ?_
                        refine lv_topi (pc := 148) (fun v_strange_120 ev_strange_120 => ?_)
                        have h := nm_at ev_strange_120 h
                        refine pf_X10_321 (pc := 148) (wX10_play cB cI cZ av a_this 0 v_size v_begins v_entries v_length v_pressed v_streamFrames v_zeros v_level v_sum v_tail 1 v_found_11 v_strange_120 0 0 0 0 v_may v_mocks v_sumThen v_beside_12 v_bits v_bytesOf v_foundAt_13 v_got v_innerMarks v_innerTold v_inners v_logs v_marked v_outerMarks v_outerTold v_outers v_places v_powers v_rows v_sure v_syndromes v_values v_word) C hw 0 rfl rfl rfl rfl (Nat.le_of_ble_eq_true rfl) dX10_play_148 (fun H locs hw => ?_)
                        obtain ⟨x5_121, ex5_121⟩ : ∃ y : Int32, y = x5_110 + 1 := ⟨_, rfl⟩
                        have h := nm_at ex5_121 h
                        refine lv_iinc (pc := 151) (v := x5_121) (lv' := [(5, .int x5_121), (4, .int x4_103), (0, .ref a_this), (1, .int x1), (2, .int x2)]) hx hb dX10_play_151 hl (k := 0) rfl (by rw [ex5_121]; rfl) (by decide) rfl (fun ls hl => ?_)
                        refine lv_goto (pc := 154) (tgt := 100) hx hb dX10_play_154 (by decide) ?_
                        exact ih100_112 x5_121 v_strange_120 ls _ _ (lv_sub hl [0, 1, 2, 3, 4] rfl) hw h
                      refine lv_if_ge (pc := 139) (tgt := 146) hx hb dX10_play_139 (by decide) (fun hc_122 => ?_) (fun hc_122 => ?_)
                      · have h := ift hc_122 h
                        refine lv_iconst (pc := 146) (v := 0) hx hb dX10_play_146 (by decide) ?_
                        exact J147_119 0 ls _ _ (lv_sub hl [0, 1, 2, 3, 4] rfl) hw h
                      · have h := iff' hc_122 h
                        refine lv_iconst (pc := 142) (v := 1) hx hb dX10_play_142 (by decide) ?_
                        refine lv_goto (pc := 143) (tgt := 147) hx hb dX10_play_143 (by decide) ?_
                        exact J147_119 1 ls _ _ (lv_sub hl [0, 1, 2, 3, 4] rfl) hw h
                exact Lih100_112 FU 0 v_strange_104 ls _ _ (lv_sub hl [0, 1, 2, 3, 4] rfl) hw h
          exact Lih88_105 FU 0 0 ls _ _ (lv_sub hl [0, 1, 2, 3] rfl) hw h
        · have h := ift hc_10 h
          refine lv_iconst (pc := 48) (v := (-1)) hx hb dX10_play_48 (by decide) ?_
          exact x_iret (pc := 49) (v := ((-1), v_found, v_innerFails, v_isPlayed, v_mostMarks, v_outerFails, v_strange, 0, v_unsure, v_beside, v_foundAt, v_got, v_innerMarks, v_innerTold, v_inners, v_marked, v_outerMarks, v_outerTold, v_outers, v_places, v_rows, v_sure, v_syndromes, v_values, v_word)) C (Option.some.inj h) rfl hw dX10_play_49
