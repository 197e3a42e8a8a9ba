def wX10_isThere (cB cI cZ : ClassId) (av : Nat → Nat) (a_this : Nat) (v_thrown : Int32) (v_size : Int32) (v_begins : Int32) (v_entries : Int32) (v_length : Int32) (v_pressed : Int32) (v_streamFrames : Int32) (v_zeros : Int32) (v_level : Int32) (v_sum : Int32) (v_tail : Int32) (v_isPlayed : Int32) (v_found : Int32) (v_strange : Int32) (v_innerFails : Int32) (v_outerFails : Int32) (v_mostMarks : Int32) (v_unsure : Int32) (v_may : Int32) (v_mocks : Int32) (v_sumThen : Int32) : va_W := [oX10 a_this av v_thrown v_size v_begins v_entries v_length v_pressed v_streamFrames v_zeros v_level v_sum v_tail v_isPlayed v_found v_strange v_innerFails v_outerFails v_mostMarks v_unsure v_may v_mocks v_sumThen]
def fX10_isThere (v_isPlayed : Int32) (v_streamFrames : Int32) (x1 : Int32) : Int32 := if v_isPlayed = 0 then 0 else nt1 (fX10_in (Int32.toInt64 x1) 0 (Int32.toInt64 (((24 : Int32) * v_streamFrames) - (1 : Int32)))) fun r_2 => if r_2 = 0 then 0 else 1
set_option maxHeartbeats 4000000 in
set_option maxRecDepth 100000 in
theorem ct_X10_isThere (l : Launch) (D : va_G) (cB cI cZ : ClassId) (tw : Nat) (av : Nat → Nat) (a_this : Nat) (v_thrown : Int32) (v_size : Int32) (v_begins : Int32) (v_entries : Int32) (v_length : Int32) (v_pressed : Int32) (v_streamFrames : Int32) (v_zeros : Int32) (v_level : Int32) (v_sum : Int32) (v_tail : Int32) (v_isPlayed : Int32) (v_found : Int32) (v_strange : Int32) (v_innerFails : Int32) (v_outerFails : Int32) (v_mostMarks : Int32) (v_unsure : Int32) (v_may : Int32) (v_mocks : Int32) (v_sumThen : Int32) (x1 : Int32) (res : Int32) (h : fX10_isThere v_isPlayed v_streamFrames x1 = res) : Ctr l yX10_isThere cX10_isThere 2 (some .boolean) (rmK 1 25) D (tyL cB cI cZ) tw [.ref a_this, .int x1] (wX10_isThere cB cI cZ av a_this v_thrown v_size v_begins v_entries v_length v_pressed v_streamFrames v_zeros v_level v_sum v_tail v_isPlayed v_found v_strange v_innerFails v_outerFails v_mostMarks v_unsure v_may v_mocks v_sumThen) (fun res : Int32 => some (.int res)) (fun res : Int32 => (wX10_isThere cB cI cZ av a_this v_thrown v_size v_begins v_entries v_length v_pressed v_streamFrames v_zeros v_level v_sum v_tail v_isPlayed v_found v_strange v_innerFails v_outerFails v_mostMarks v_unsure v_may v_mocks v_sumThen)) res := by
  refine ctr_of RX10 (by decide) rfl (Nat.le_of_ble_eq_true rfl) ?_
  intro p e s m below meth c A C hw ls hl
  have hx := C.1
  have hb := C.2.1
  have hl : lv_has ls 2 [(0, .ref a_this), (1, .int x1)] := hl
  unfold fX10_isThere at h
  refine lv_aload_n (pc := 0) hx hb dX10_isThere_0 rfl (lv_at hl 0 rfl) ?_
  refine gf_X10_250 (pc := 1) C hw 0 rfl rfl dX10_isThere_1 ?_
  refine lv_if_eq (pc := 4) (tgt := 30) hx hb dX10_isThere_4 (by decide) (fun hc_1 => ?_) (fun hc_1 => ?_)
  · have h := ift hc_1 h
    refine lv_iconst (pc := 30) (v := 0) hx hb dX10_isThere_30 (by decide) ?_
    exact x_zret (pc := 31) (v := 0) C h rfl rfl hw dX10_isThere_31
  · have h := iff' hc_1 h
    refine lv_iload_n (pc := 7) hx hb dX10_isThere_7 rfl (lv_at hl 1 rfl) ?_
    refine lv_i2l (pc := 8) hx hb dX10_isThere_8 rfl ?_
    refine lv_lconst (pc := 9) (v := 0) hx hb dX10_isThere_9 (by decide) ?_
    refine lv_bipush (pc := 10) (v := 24) hx hb dX10_isThere_10 (by decide) ?_
    refine lv_aload_n (pc := 12) hx hb dX10_isThere_12 rfl (lv_at hl 0 rfl) ?_
    refine gf_X10_169 (pc := 13) C hw 0 rfl rfl dX10_isThere_13 ?_
    refine lv_imul (pc := 16) hx hb dX10_isThere_16 ?_
    refine lv_iconst (pc := 17) (v := 1) hx hb dX10_isThere_17 (by decide) ?_
    refine lv_isub (pc := 18) hx hb dX10_isThere_18 ?_
    refine lv_i2l (pc := 19) hx hb dX10_isThere_19 rfl ?_
    obtain ⟨r_2, hq_3, h⟩ := nt1_at h
    refine x_callS (pc := 20) (rest := []) (stk := [.int r_2]) (wX10_isThere cB cI cZ av a_this v_thrown v_size v_begins v_entries v_length v_pressed v_streamFrames v_zeros v_level v_sum v_tail v_isPlayed v_found v_strange v_innerFails v_outerFails v_mostMarks v_unsure v_may v_mocks v_sumThen) C hw (ct_X10_in l D cB cI cZ tw av (Int32.toInt64 x1) 0 (Int32.toInt64 (((24 : Int32) * v_streamFrames) - (1 : Int32))) r_2 hq_3.symm) cal_X10_in tw_1176 [] [0] 1 [oX10 a_this av v_thrown v_size v_begins v_entries v_length v_pressed v_streamFrames v_zeros v_level v_sum v_tail v_isPlayed v_found v_strange v_innerFails v_outerFails v_mostMarks v_unsure v_may v_mocks v_sumThen] rfl rfl rfl rfl rfl rfl rfl rfl rfl rfl rfl (Nat.le_of_ble_eq_true rfl) hl.1 ⟨Nat.le_of_ble_eq_true rfl, Nat.le_of_ble_eq_true rfl⟩ ⟨Nat.zero_le _, Nat.zero_le _⟩ dX10_isThere_20 (fun H locs hw => ?_)
    refine lv_if_eq (pc := 23) (tgt := 30) hx hb dX10_isThere_23 (by decide) (fun hc_4 => ?_) (fun hc_4 => ?_)
    · have h := ift hc_4 h
      refine lv_iconst (pc := 30) (v := 0) hx hb dX10_isThere_30 (by decide) ?_
      exact x_zret (pc := 31) (v := 0) C h rfl rfl hw dX10_isThere_31
    · have h := iff' hc_4 h
      refine lv_iconst (pc := 26) (v := 1) hx hb dX10_isThere_26 (by decide) ?_
      refine lv_goto (pc := 27) (tgt := 31) hx hb dX10_isThere_27 (by decide) ?_
      exact x_zret (pc := 31) (v := 1) C h rfl rfl hw dX10_isThere_31
def wX10_played (cB cI cZ : ClassId) (av : Nat → Nat) (a_this : Nat) (v_thrown : Int32) (v_size : Int32) (v_begins : Int32) (v_entries : Int32) (v_length : Int32) (v_pressed : Int32) (v_streamFrames : Int32) (v_zeros : Int32) (v_level : Int32) (v_sum : Int32) (v_tail : Int32) (v_isPlayed : Int32) (v_found : Int32) (v_strange : Int32) (v_innerFails : Int32) (v_outerFails : Int32) (v_mostMarks : Int32) (v_unsure : Int32) (v_may : Int32) (v_mocks : Int32) (v_sumThen : Int32) (v_got : Nat → Int32) : va_W := [oX10 a_this av v_thrown v_size v_begins v_entries v_length v_pressed v_streamFrames v_zeros v_level v_sum v_tail v_isPlayed v_found v_strange v_innerFails v_outerFails v_mostMarks v_unsure v_may v_mocks v_sumThen, ((av 42), .inl (cI, 11736, .inl v_got))]
def fX10_played (v_isPlayed : Int32) (v_streamFrames : Int32) (v_thrown : Int32) (v_got : Nat → Int32) (x1 : Int32) : Option (Int32 × Int32) := nt1 (fX10_isThere v_isPlayed v_streamFrames x1) fun r_1 => if r_1 = 0 then some ((-1), 0) else og (ixb x1 11736) (some ((v_got (Int32.toNatClampNeg x1)), 0))
set_option maxHeartbeats 4000000 in
set_option maxRecDepth 100000 in
theorem ct_X10_played (l : Launch) (D : va_G) (cB cI cZ : ClassId) (tw : Nat) (av : Nat → Nat) (a_this : Nat) (v_thrown : Int32) (v_size : Int32) (v_begins : Int32) (v_entries : Int32) (v_length : Int32) (v_pressed : Int32) (v_streamFrames : Int32) (v_zeros : Int32) (v_level : Int32) (v_sum : Int32) (v_tail : Int32) (v_isPlayed : Int32) (v_found : Int32) (v_strange : Int32) (v_innerFails : Int32) (v_outerFails : Int32) (v_mostMarks : Int32) (v_unsure : Int32) (v_may : Int32) (v_mocks : Int32) (v_sumThen : Int32) (v_got : Nat → Int32) (x1 : Int32) (res : Int32 × Int32) (h : fX10_played v_isPlayed v_streamFrames v_thrown v_got x1 = some res) : Ctr l yX10_played cX10_played 2 (some .int) (rmK 2 46) D (tyL cB cI cZ) tw [.ref a_this, .int x1] (wX10_played cB cI cZ av a_this v_thrown v_size v_begins v_entries v_length v_pressed v_streamFrames v_zeros v_level v_sum v_tail v_isPlayed v_found v_strange v_innerFails v_outerFails v_mostMarks v_unsure v_may v_mocks v_sumThen v_got) (fun res : Int32 × Int32 => some (.int res.1)) (fun res : Int32 × Int32 => (wX10_played cB cI cZ av a_this (res.2) v_size v_begins v_entries v_length v_pressed v_streamFrames v_zeros v_level v_sum v_tail v_isPlayed v_found v_strange v_innerFails v_outerFails v_mostMarks v_unsure v_may v_mocks v_sumThen v_got)) res := by
  refine ctr_of RX10 (by decide) rfl (Nat.le_of_ble_eq_true rfl) ?_
  intro p e s m below meth c A C hw ls hl
  have hx := C.1
  have hb := C.2.1
  have hl : lv_has ls 2 [(0, .ref a_this), (1, .int x1)] := hl
  unfold fX10_played at h
  refine lv_aload_n (pc := 0) hx hb dX10_played_0 rfl (lv_at hl 0 rfl) ?_
  refine lv_iconst (pc := 1) (v := 0) hx hb dX10_played_1 (by decide) ?_
  refine pf_X10_100 (pc := 2) (wX10_played cB cI cZ av a_this 0 v_size v_begins v_entries v_length v_pressed v_streamFrames v_zeros v_level v_sum v_tail v_isPlayed v_found v_strange v_innerFails v_outerFails v_mostMarks v_unsure v_may v_mocks v_sumThen v_got) C hw 0 rfl rfl rfl rfl (Nat.le_of_ble_eq_true rfl) dX10_played_2 (fun H locs hw => ?_)
  refine lv_aload_n (pc := 5) hx hb dX10_played_5 rfl (lv_at hl 0 rfl) ?_
  refine lv_iload_n (pc := 6) hx hb dX10_played_6 rfl (lv_at hl 1 rfl) ?_
  obtain ⟨r_1, hq_2, h⟩ := nt1_at h
  refine x_callV (pc := 7) (rest := []) (stk := [.int r_1]) (wX10_played cB cI cZ av a_this 0 v_size v_begins v_entries v_length v_pressed v_streamFrames v_zeros v_level v_sum v_tail v_isPlayed v_found v_strange v_innerFails v_outerFails v_mostMarks v_unsure v_may v_mocks v_sumThen v_got) C hw (ct_X10_isThere l D cB cI cZ tw av a_this 0 v_size v_begins v_entries v_length v_pressed v_streamFrames v_zeros v_level v_sum v_tail v_isPlayed v_found v_strange v_innerFails v_outerFails v_mostMarks v_unsure v_may v_mocks v_sumThen x1 r_1 hq_2.symm) cal_X10_isThere tw_1442 (q0 := 0) rfl rfl [0] [1] 2 [((av 42), .inl (cI, 11736, .inl v_got))] rfl rfl rfl rfl rfl rfl rfl rfl rfl rfl rfl (Nat.le_of_ble_eq_true rfl) hl.1 ⟨Nat.le_of_ble_eq_true rfl, Nat.le_of_ble_eq_true rfl⟩ ⟨Nat.zero_le _, Nat.zero_le _⟩ dX10_played_7 (fun H locs hw => ?_)
  refine lv_if_eq (pc := 10) (tgt := 22) hx hb dX10_played_10 (by decide) (fun hc_3 => ?_) (fun hc_3 => ?_)
  · have h := ift hc_3 h
    refine lv_iconst (pc := 22) (v := (-1)) hx hb dX10_played_22 (by decide) ?_
    exact x_iret (pc := 23) (v := ((-1), 0)) C (Option.some.inj h) rfl hw dX10_played_23
  · have h := iff' hc_3 h
    refine lv_aload_n (pc := 13) hx hb dX10_played_13 rfl (lv_at hl 0 rfl) ?_
    refine gf_X10_88 (pc := 14) C hw 0 rfl rfl dX10_played_14 ?_
    refine lv_iload_n (pc := 17) hx hb dX10_played_17 rfl (lv_at hl 1 rfl) ?_
    obtain ⟨hi_4, h⟩ := og_at h
    refine x_iald (pc := 18) C hw 1 rfl hi_4 dX10_played_18 ?_
    refine lv_goto (pc := 19) (tgt := 23) hx hb dX10_played_19 (by decide) ?_
    exact x_iret (pc := 23) (v := ((v_got (Int32.toNatClampNeg x1)), 0)) C (Option.some.inj h) rfl hw dX10_played_23
def wX10_isSure (cB cI cZ : ClassId) (av : Nat → Nat) (a_this : Nat) (v_thrown : Int32) (v_size : Int32) (v_begins : Int32) (v_entries : Int32) (v_length : Int32) (v_pressed : Int32) (v_streamFrames : Int32) (v_zeros : Int32) (v_level : Int32) (v_sum : Int32) (v_tail : Int32) (v_isPlayed : Int32) (v_found : Int32) (v_strange : Int32) (v_innerFails : Int32) (v_outerFails : Int32) (v_mostMarks : Int32) (v_unsure : Int32) (v_may : Int32) (v_mocks : Int32) (v_sumThen : Int32) (v_sure : Nat → Int32) : va_W := [oX10 a_this av v_thrown v_size v_begins v_entries v_length v_pressed v_streamFrames v_zeros v_level v_sum v_tail v_isPlayed v_found v_strange v_innerFails v_outerFails v_mostMarks v_unsure v_may v_mocks v_sumThen, ((av 43), .inl (cZ, 11736, .inl v_sure))]
def fX10_isSure (v_isPlayed : Int32) (v_streamFrames : Int32) (v_thrown : Int32) (v_sure : Nat → Int32) (x1 : Int32) : Option (Int32 × Int32) := nt1 (fX10_isThere v_isPlayed v_streamFrames x1) fun r_1 => if r_1 = 0 then some (0, 0) else og (ixb x1 11736) (if (v_sure (Int32.toNatClampNeg x1)) = 0 then some (0, 0) else some (1, 0))
set_option maxHeartbeats 4000000 in
set_option maxRecDepth 100000 in
theorem ct_X10_isSure (l : Launch) (D : va_G) (cB cI cZ : ClassId) (tw : Nat) (av : Nat → Nat) (a_this : Nat) (v_thrown : Int32) (v_size : Int32) (v_begins : Int32) (v_entries : Int32) (v_length : Int32) (v_pressed : Int32) (v_streamFrames : Int32) (v_zeros : Int32) (v_level : Int32) (v_sum : Int32) (v_tail : Int32) (v_isPlayed : Int32) (v_found : Int32) (v_strange : Int32) (v_innerFails : Int32) (v_outerFails : Int32) (v_mostMarks : Int32) (v_unsure : Int32) (v_may : Int32) (v_mocks : Int32) (v_sumThen : Int32) (v_sure : Nat → Int32) (x1 : Int32) (res : Int32 × Int32) (h : fX10_isSure v_isPlayed v_streamFrames v_thrown v_sure x1 = some res) : Ctr l yX10_isSure cX10_isSure 2 (some .boolean) (rmK 2 46) D (tyL cB cI cZ) tw [.ref a_this, .int x1] (wX10_isSure cB cI cZ av a_this v_thrown v_size v_begins v_entries v_length v_pressed v_streamFrames v_zeros v_level v_sum v_tail v_isPlayed v_found v_strange v_innerFails v_outerFails v_mostMarks v_unsure v_may v_mocks v_sumThen v_sure) (fun res : Int32 × Int32 => some (.int res.1)) (fun res : Int32 × Int32 => (wX10_isSure cB cI cZ av a_this (res.2) v_size v_begins v_entries v_length v_pressed v_streamFrames v_zeros v_level v_sum v_tail v_isPlayed v_found v_strange v_innerFails v_outerFails v_mostMarks v_unsure v_may v_mocks v_sumThen v_sure)) res := by
  refine ctr_of RX10 (by decide) rfl (Nat.le_of_ble_eq_true rfl) ?_
  intro p e s m below meth c A C hw ls hl
  have hx := C.1
  have hb := C.2.1
  have hl : lv_has ls 2 [(0, .ref a_this), (1, .int x1)] := hl
  unfold fX10_isSure at h
  refine lv_aload_n (pc := 0) hx hb dX10_isSure_0 rfl (lv_at hl 0 rfl) ?_
  refine lv_iconst (pc := 1) (v := 0) hx hb dX10_isSure_1 (by decide) ?_
  refine pf_X10_100 (pc := 2) (wX10_isSure cB cI cZ av a_this 0 v_size v_begins v_entries v_length v_pressed v_streamFrames v_zeros v_level v_sum v_tail v_isPlayed v_found v_strange v_innerFails v_outerFails v_mostMarks v_unsure v_may v_mocks v_sumThen v_sure) C hw 0 rfl rfl rfl rfl (Nat.le_of_ble_eq_true rfl) dX10_isSure_2 (fun H locs hw => ?_)
  refine lv_aload_n (pc := 5) hx hb dX10_isSure_5 rfl (lv_at hl 0 rfl) ?_
  refine lv_iload_n (pc := 6) hx hb dX10_isSure_6 rfl (lv_at hl 1 rfl) ?_
  obtain ⟨r_1, hq_2, h⟩ := nt1_at h
  refine x_callV (pc := 7) (rest := []) (stk := [.int r_1]) (wX10_isSure cB cI cZ av a_this 0 v_size v_begins v_entries v_length v_pressed v_streamFrames v_zeros v_level v_sum v_tail v_isPlayed v_found v_strange v_innerFails v_outerFails v_mostMarks v_unsure v_may v_mocks v_sumThen v_sure) C hw (ct_X10_isThere l D cB cI cZ tw av a_this 0 v_size v_begins v_entries v_length v_pressed v_streamFrames v_zeros v_level v_sum v_tail v_isPlayed v_found v_strange v_innerFails v_outerFails v_mostMarks v_unsure v_may v_mocks v_sumThen x1 r_1 hq_2.symm) cal_X10_isThere tw_1442 (q0 := 0) rfl rfl [0] [1] 2 [((av 43), .inl (cZ, 11736, .inl v_sure))] rfl rfl rfl rfl rfl rfl rfl rfl rfl rfl rfl (Nat.le_of_ble_eq_true rfl) hl.1 ⟨Nat.le_of_ble_eq_true rfl, Nat.le_of_ble_eq_true rfl⟩ ⟨Nat.zero_le _, Nat.zero_le _⟩ dX10_isSure_7 (fun H locs hw => ?_)
  refine lv_if_eq (pc := 10) (tgt := 26) hx hb dX10_isSure_10 (by decide) (fun hc_3 => ?_) (fun hc_3 => ?_)
  · have h := ift hc_3 h
    refine lv_iconst (pc := 26) (v := 0) hx hb dX10_isSure_26 (by decide) ?_
    exact x_zret (pc := 27) (v := (0, 0)) C (Option.some.inj h) rfl rfl hw dX10_isSure_27
  · have h := iff' hc_3 h
    refine lv_aload_n (pc := 13) hx hb dX10_isSure_13 rfl (lv_at hl 0 rfl) ?_
    refine gf_X10_91 (pc := 14) C hw 0 rfl rfl dX10_isSure_14 ?_
    refine lv_iload_n (pc := 17) hx hb dX10_isSure_17 rfl (lv_at hl 1 rfl) ?_
    obtain ⟨hi_4, h⟩ := og_at h
    refine x_zald (pc := 18) C hw 1 rfl hi_4 dX10_isSure_18 ?_
    refine lv_if_eq (pc := 19) (tgt := 26) hx hb dX10_isSure_19 (by decide) (fun hc_5 => ?_) (fun hc_5 => ?_)
    · have h := ift hc_5 h
      refine lv_iconst (pc := 26) (v := 0) hx hb dX10_isSure_26 (by decide) ?_
      exact x_zret (pc := 27) (v := (0, 0)) C (Option.some.inj h) rfl rfl hw dX10_isSure_27
    · have h := iff' hc_5 h
      refine lv_iconst (pc := 22) (v := 1) hx hb dX10_isSure_22 (by decide) ?_
      refine lv_goto (pc := 23) (tgt := 27) hx hb dX10_isSure_23 (by decide) ?_
      exact x_zret (pc := 27) (v := (1, 0)) C (Option.some.inj h) rfl rfl hw dX10_isSure_27
def wX10_sampleAt (cB cI cZ : ClassId) (av : Nat → Nat) : va_W := []
def fX10_sampleAt (x0 : Int32) (x1 : Int32) : Int32 := if x1 = 0 then (((4 : Int32) * x0) + (0 : Int32)) else (((4 : Int32) * x0) + (2 : Int32))
set_option maxHeartbeats 4000000 in
set_option maxRecDepth 100000 in
theorem ct_X10_sampleAt (l : Launch) (D : va_G) (cB cI cZ : ClassId) (tw : Nat) (av : Nat → Nat) (x0 : Int32) (x1 : Int32) (res : Int32) (h : fX10_sampleAt x0 x1 = res) : Ctr l yX10_sampleAt cX10_sampleAt 2 (some .int) (rmK 0 0) D (tyL cB cI cZ) tw [.int x0, .int x1] (wX10_sampleAt cB cI cZ av) (fun res : Int32 => some (.int res)) (fun res : Int32 => (wX10_sampleAt cB cI cZ av)) res := by
  refine ctr_of RX10 (by decide) rfl (Nat.le_of_ble_eq_true rfl) ?_
  intro p e s m below meth c A C hw ls hl
  have hx := C.1
  have hb := C.2.1
  have hl : lv_has ls 2 [(0, .int x0), (1, .int x1)] := hl
  unfold fX10_sampleAt at h
  refine lv_iconst (pc := 0) (v := 4) hx hb dX10_sampleAt_0 (by decide) ?_
  refine lv_iload_n (pc := 1) hx hb dX10_sampleAt_1 rfl (lv_at hl 0 rfl) ?_
  refine lv_imul (pc := 2) hx hb dX10_sampleAt_2 ?_
  refine lv_iload_n (pc := 3) hx hb dX10_sampleAt_3 rfl (lv_at hl 1 rfl) ?_
  refine lv_if_eq (pc := 4) (tgt := 11) hx hb dX10_sampleAt_4 (by decide) (fun hc_1 => ?_) (fun hc_1 => ?_)
  · have h := ift hc_1 h
    refine lv_iconst (pc := 11) (v := 0) hx hb dX10_sampleAt_11 (by decide) ?_
    refine lv_iadd (pc := 12) hx hb dX10_sampleAt_12 ?_
    exact x_iret (pc := 13) (v := (((4 : Int32) * x0) + (0 : Int32))) C h rfl hw dX10_sampleAt_13
  · have h := iff' hc_1 h
    refine lv_iconst (pc := 7) (v := 2) hx hb dX10_sampleAt_7 (by decide) ?_
    refine lv_goto (pc := 8) (tgt := 12) hx hb dX10_sampleAt_8 (by decide) ?_
    refine lv_iadd (pc := 12) hx hb dX10_sampleAt_12 ?_
    exact x_iret (pc := 13) (v := (((4 : Int32) * x0) + (2 : Int32))) C h rfl hw dX10_sampleAt_13
def wX10_isSampleSure (cB cI cZ : ClassId) (av : Nat → Nat) (a_this : Nat) (v_thrown : Int32) (v_size : Int32) (v_begins : Int32) (v_entries : Int32) (v_length : Int32) (v_pressed : Int32) (v_streamFrames : Int32) (v_zeros : Int32) (v_level : Int32) (v_sum : Int32) (v_tail : Int32) (v_isPlayed : Int32) (v_found : Int32) (v_strange : Int32) (v_innerFails : Int32) (v_outerFails : Int32) (v_mostMarks : Int32) (v_unsure : Int32) (v_may : Int32) (v_mocks : Int32) (v_sumThen : Int32) (v_sure : Nat → Int32) : va_W := [oX10 a_this av v_thrown v_size v_begins v_entries v_length v_pressed v_streamFrames v_zeros v_level v_sum v_tail v_isPlayed v_found v_strange v_innerFails v_outerFails v_mostMarks v_unsure v_may v_mocks v_sumThen, ((av 43), .inl (cZ, 11736, .inl v_sure))]
def fX10_isSampleSure (v_streamFrames : Int32) (v_sure : Nat → Int32) (x1 : Int32) (x2 : Int32) : Option (Int32) := nt1 (fX10_sampleAt x1 x2) fun r_1 => if ((6 : Int32) * v_streamFrames) ≤ x1 then some 0 else og (ixb r_1 11736) (if (v_sure (Int32.toNatClampNeg r_1)) = 0 then some 0 else og (ixb (r_1 + (1 : Int32)) 11736) (if (v_sure (Int32.toNatClampNeg (r_1 + (1 : Int32)))) = 0 then some 0 else some 1))
set_option maxHeartbeats 4000000 in
set_option maxRecDepth 100000 in
theorem ct_X10_isSampleSure (l : Launch) (D : va_G) (cB cI cZ : ClassId) (tw : Nat) (av : Nat → Nat) (a_this : Nat) (v_thrown : Int32) (v_size : Int32) (v_begins : Int32) (v_entries : Int32) (v_length : Int32) (v_pressed : Int32) (v_streamFrames : Int32) (v_zeros : Int32) (v_level : Int32) (v_sum : Int32) (v_tail : Int32) (v_isPlayed : Int32) (v_found : Int32) (v_strange : Int32) (v_innerFails : Int32) (v_outerFails : Int32) (v_mostMarks : Int32) (v_unsure : Int32) (v_may : Int32) (v_mocks : Int32) (v_sumThen : Int32) (v_sure : Nat → Int32) (x1 : Int32) (x2 : Int32) (res : Int32) (h : fX10_isSampleSure v_streamFrames v_sure x1 x2 = some res) : Ctr l yX10_isSampleSure cX10_isSampleSure 4 (some .boolean) (rmK 1 21) D (tyL cB cI cZ) tw [.ref a_this, .int x1, .int x2] (wX10_isSampleSure cB cI cZ av a_this v_thrown v_size v_begins v_entries v_length v_pressed v_streamFrames v_zeros v_level v_sum v_tail v_isPlayed v_found v_strange v_innerFails v_outerFails v_mostMarks v_unsure v_may v_mocks v_sumThen v_sure) (fun res : Int32 => some (.int res)) (fun res : Int32 => (wX10_isSampleSure cB cI cZ av a_this v_thrown v_size v_begins v_entries v_length v_pressed v_streamFrames v_zeros v_level v_sum v_tail v_isPlayed v_found v_strange v_innerFails v_outerFails v_mostMarks v_unsure v_may v_mocks v_sumThen v_sure)) res := by
  refine ctr_of RX10 (by decide) rfl (Nat.le_of_ble_eq_true rfl) ?_
  intro p e s m below meth c A C hw ls hl
  have hx := C.1
  have hb := C.2.1
  have hl : lv_has ls 4 [(0, .ref a_this), (1, .int x1), (2, .int x2)] := hl
  unfold fX10_isSampleSure at h
  refine lv_iload_n (pc := 0) hx hb dX10_isSampleSure_0 rfl (lv_at hl 1 rfl) ?_
  refine lv_iload_n (pc := 1) hx hb dX10_isSampleSure_1 rfl (lv_at hl 2 rfl) ?_
  obtain ⟨r_1, hq_2, h⟩ := nt1_at h
  refine x_callS (pc := 2) (rest := []) (stk := [.int r_1]) (wX10_isSampleSure cB cI cZ av a_this v_thrown v_size v_begins v_entries v_length v_pressed v_streamFrames v_zeros v_level v_sum v_tail v_isPlayed v_found v_strange v_innerFails v_outerFails v_mostMarks v_unsure v_may v_mocks v_sumThen v_sure) C hw (ct_X10_sampleAt l D cB cI cZ tw av x1 x2 r_1 hq_2.symm) cal_X10_sampleAt tw_1459 [] [0, 1] 2 [oX10 a_this av v_thrown v_size v_begins v_entries v_length v_pressed v_streamFrames v_zeros v_level v_sum v_tail v_isPlayed v_found v_strange v_innerFails v_outerFails v_mostMarks v_unsure v_may v_mocks v_sumThen, ((av 43), .inl (cZ, 11736, .inl v_sure))] rfl rfl rfl rfl rfl rfl rfl rfl rfl rfl rfl (Nat.le_of_ble_eq_true rfl) hl.1 ⟨Nat.le_of_ble_eq_true rfl, Nat.le_of_ble_eq_true rfl⟩ ⟨Nat.zero_le _, Nat.zero_le _⟩ dX10_isSampleSure_2 (fun H locs hw => ?_)
  refine lv_istore_n (pc := 5) (lv' := [(3, .int r_1), (0, .ref a_this), (1, .int x1), (2, .int x2)]) hx hb dX10_isSampleSure_5 rfl hl (by decide) rfl (fun ls hl => ?_)
  refine lv_iload_n (pc := 6) hx hb dX10_isSampleSure_6 rfl (lv_at hl 2 rfl) ?_
  refine lv_bipush (pc := 7) (v := 6) hx hb dX10_isSampleSure_7 (by decide) ?_
  refine lv_aload_n (pc := 9) hx hb dX10_isSampleSure_9 rfl (lv_at hl 1 rfl) ?_
  refine gf_X10_169 (pc := 10) C hw 0 rfl rfl dX10_isSampleSure_10 ?_
  refine lv_imul (pc := 13) hx hb dX10_isSampleSure_13 ?_
  refine lv_icmp_ge (pc := 14) (tgt := 41) hx hb dX10_isSampleSure_14 (by decide) (fun hc_3 => ?_) (fun hc_3 => ?_)
  · have h := ift hc_3 h
    refine lv_iconst (pc := 41) (v := 0) hx hb dX10_isSampleSure_41 (by decide) ?_
    exact x_zret (pc := 42) (v := 0) C (Option.some.inj h) rfl rfl hw dX10_isSampleSure_42
  · have h := iff' hc_3 h
    refine lv_aload_n (pc := 17) hx hb dX10_isSampleSure_17 rfl (lv_at hl 1 rfl) ?_
    refine gf_X10_91 (pc := 18) C hw 0 rfl rfl dX10_isSampleSure_18 ?_
    refine lv_iload_n (pc := 21) hx hb dX10_isSampleSure_21 rfl (lv_at hl 0 rfl) ?_
    obtain ⟨hi_4, h⟩ := og_at h
    refine x_zald (pc := 22) C hw 1 rfl hi_4 dX10_isSampleSure_22 ?_
    refine lv_if_eq (pc := 23) (tgt := 41) hx hb dX10_isSampleSure_23 (by decide) (fun hc_5 => ?_) (fun hc_5 => ?_)
    · have h := ift hc_5 h
      refine lv_iconst (pc := 41) (v := 0) hx hb dX10_isSampleSure_41 (by decide) ?_
      exact x_zret (pc := 42) (v := 0) C (Option.some.inj h) rfl rfl hw dX10_isSampleSure_42
    · have h := iff' hc_5 h
      refine lv_aload_n (pc := 26) hx hb dX10_isSampleSure_26 rfl (lv_at hl 1 rfl) ?_
      refine gf_X10_91 (pc := 27) C hw 0 rfl rfl dX10_isSampleSure_27 ?_
      refine lv_iload_n (pc := 30) hx hb dX10_isSampleSure_30 rfl (lv_at hl 0 rfl) ?_
      refine lv_iconst (pc := 31) (v := 1) hx hb dX10_isSampleSure_31 (by decide) ?_
      refine lv_iadd (pc := 32) hx hb dX10_isSampleSure_32 ?_
      obtain ⟨hi_6, h⟩ := og_at h
      refine x_zald (pc := 33) C hw 1 rfl hi_6 dX10_isSampleSure_33 ?_
      refine lv_if_eq (pc := 34) (tgt := 41) hx hb dX10_isSampleSure_34 (by decide) (fun hc_7 => ?_) (fun hc_7 => ?_)
      · have h := ift hc_7 h
        refine lv_iconst (pc := 41) (v := 0) hx hb dX10_isSampleSure_41 (by decide) ?_
        exact x_zret (pc := 42) (v := 0) C (Option.some.inj h) rfl rfl hw dX10_isSampleSure_42
      · have h := iff' hc_7 h
        refine lv_iconst (pc := 37) (v := 1) hx hb dX10_isSampleSure_37 (by decide) ?_
        refine lv_goto (pc := 38) (tgt := 42) hx hb dX10_isSampleSure_38 (by decide) ?_
        exact x_zret (pc := 42) (v := 1) C (Option.some.inj h) rfl rfl hw dX10_isSampleSure_42
def wX10_sample (cB cI cZ : ClassId) (av : Nat → Nat) (a_this : Nat) (v_thrown : Int32) (v_size : Int32) (v_begins : Int32) (v_entries : Int32) (v_length : Int32) (v_pressed : Int32) (v_streamFrames : Int32) (v_zeros : Int32) (v_level : Int32) (v_sum : Int32) (v_tail : Int32) (v_isPlayed : Int32) (v_found : Int32) (v_strange : Int32) (v_innerFails : Int32) (v_outerFails : Int32) (v_mostMarks : Int32) (v_unsure : Int32) (v_may : Int32) (v_mocks : Int32) (v_sumThen : Int32) (v_got : Nat → Int32) : va_W := [oX10 a_this av v_thrown v_size v_begins v_entries v_length v_pressed v_streamFrames v_zeros v_level v_sum v_tail v_isPlayed v_found v_strange v_innerFails v_outerFails v_mostMarks v_unsure v_may v_mocks v_sumThen, ((av 42), .inl (cI, 11736, .inl v_got))]
def fX10_sample (v_got : Nat → Int32) (x1 : Int32) (x2 : Int32) : Option (Int32) := nt1 (fX10_sampleAt x1 x2) fun r_1 => og (ixb r_1 11736) (og (ixb (r_1 + (1 : Int32)) 11736) (some (Int16.toInt32 (Int32.toInt16 (((v_got (Int32.toNatClampNeg r_1)) <<< ((8 : Int32) &&& 31) : Int32) ||| (v_got (Int32.toNatClampNeg (r_1 + (1 : Int32)))))))))
set_option maxHeartbeats 4000000 in
set_option maxRecDepth 100000 in
theorem ct_X10_sample (l : Launch) (D : va_G) (cB cI cZ : ClassId) (tw : Nat) (av : Nat → Nat) (a_this : Nat) (v_thrown : Int32) (v_size : Int32) (v_begins : Int32) (v_entries : Int32) (v_length : Int32) (v_pressed : Int32) (v_streamFrames : Int32) (v_zeros : Int32) (v_level : Int32) (v_sum : Int32) (v_tail : Int32) (v_isPlayed : Int32) (v_found : Int32) (v_strange : Int32) (v_innerFails : Int32) (v_outerFails : Int32) (v_mostMarks : Int32) (v_unsure : Int32) (v_may : Int32) (v_mocks : Int32) (v_sumThen : Int32) (v_got : Nat → Int32) (x1 : Int32) (x2 : Int32) (res : Int32) (h : fX10_sample v_got x1 x2 = some res) : Ctr l yX10_sample cX10_sample 4 (some .int) (rmK 1 21) D (tyL cB cI cZ) tw [.ref a_this, .int x1, .int x2] (wX10_sample cB cI cZ av a_this v_thrown v_size v_begins v_entries v_length v_pressed v_streamFrames v_zeros v_level v_sum v_tail v_isPlayed v_found v_strange v_innerFails v_outerFails v_mostMarks v_unsure v_may v_mocks v_sumThen v_got) (fun res : Int32 => some (.int res)) (fun res : Int32 => (wX10_sample cB cI cZ av a_this v_thrown v_size v_begins v_entries v_length v_pressed v_streamFrames v_zeros v_level v_sum v_tail v_isPlayed v_found v_strange v_innerFails v_outerFails v_mostMarks v_unsure v_may v_mocks v_sumThen v_got)) res := by
  refine ctr_of RX10 (by decide) rfl (Nat.le_of_ble_eq_true rfl) ?_
  intro p e s m below meth c A C hw ls hl
  have hx := C.1
  have hb := C.2.1
  have hl : lv_has ls 4 [(0, .ref a_this), (1, .int x1), (2, .int x2)] := hl
  unfold fX10_sample at h
  refine lv_iload_n (pc := 0) hx hb dX10_sample_0 rfl (lv_at hl 1 rfl) ?_
  refine lv_iload_n (pc := 1) hx hb dX10_sample_1 rfl (lv_at hl 2 rfl) ?_
  obtain ⟨r_1, hq_2, h⟩ := nt1_at h
  refine x_callS (pc := 2) (rest := []) (stk := [.int r_1]) (wX10_sample cB cI cZ av a_this v_thrown v_size v_begins v_entries v_length v_pressed v_streamFrames v_zeros v_level v_sum v_tail v_isPlayed v_found v_strange v_innerFails v_outerFails v_mostMarks v_unsure v_may v_mocks v_sumThen v_got) C hw (ct_X10_sampleAt l D cB cI cZ tw av x1 x2 r_1 hq_2.symm) cal_X10_sampleAt tw_1459 [] [0, 1] 2 [oX10 a_this av v_thrown v_size v_begins v_entries v_length v_pressed v_streamFrames v_zeros v_level v_sum v_tail v_isPlayed v_found v_strange v_innerFails v_outerFails v_mostMarks v_unsure v_may v_mocks v_sumThen, ((av 42), .inl (cI, 11736, .inl v_got))] rfl rfl rfl rfl rfl rfl rfl rfl rfl rfl rfl (Nat.le_of_ble_eq_true rfl) hl.1 ⟨Nat.le_of_ble_eq_true rfl, Nat.le_of_ble_eq_true rfl⟩ ⟨Nat.zero_le _, Nat.zero_le _⟩ dX10_sample_2 (fun H locs hw => ?_)
  refine lv_istore_n (pc := 5) (lv' := [(3, .int r_1), (0, .ref a_this), (1, .int x1), (2, .int x2)]) hx hb dX10_sample_5 rfl hl (by decide) rfl (fun ls hl => ?_)
  refine lv_aload_n (pc := 6) hx hb dX10_sample_6 rfl (lv_at hl 1 rfl) ?_
  refine gf_X10_88 (pc := 7) C hw 0 rfl rfl dX10_sample_7 ?_
  refine lv_iload_n (pc := 10) hx hb dX10_sample_10 rfl (lv_at hl 0 rfl) ?_
  obtain ⟨hi_3, h⟩ := og_at h
  refine x_iald (pc := 11) C hw 1 rfl hi_3 dX10_sample_11 ?_
  refine lv_bipush (pc := 12) (v := 8) hx hb dX10_sample_12 (by decide) ?_
  refine lv_ishl (pc := 14) hx hb dX10_sample_14 ?_
  refine lv_aload_n (pc := 15) hx hb dX10_sample_15 rfl (lv_at hl 1 rfl) ?_
  refine gf_X10_88 (pc := 16) C hw 0 rfl rfl dX10_sample_16 ?_
  refine lv_iload_n (pc := 19) hx hb dX10_sample_19 rfl (lv_at hl 0 rfl) ?_
  refine lv_iconst (pc := 20) (v := 1) hx hb dX10_sample_20 (by decide) ?_
  refine lv_iadd (pc := 21) hx hb dX10_sample_21 ?_
  obtain ⟨hi_4, h⟩ := og_at h
  refine x_iald (pc := 22) C hw 1 rfl hi_4 dX10_sample_22 ?_
  refine lv_ior (pc := 23) hx hb dX10_sample_23 ?_
  refine lv_i2s (pc := 24) hx hb dX10_sample_24 rfl ?_
  exact x_iret (pc := 25) (v := (Int16.toInt32 (Int32.toInt16 (((v_got (Int32.toNatClampNeg r_1)) <<< ((8 : Int32) &&& 31) : Int32) ||| (v_got (Int32.toNatClampNeg (r_1 + (1 : Int32)))))))) C (Option.some.inj h) rfl hw dX10_sample_25
def wX10_heard (cB cI cZ : ClassId) (av : Nat → Nat) (a_this : Nat) (v_thrown : Int32) (v_size : Int32) (v_begins : Int32) (v_entries : Int32) (v_length : Int32) (v_pressed : Int32) (v_streamFrames : Int32) (v_zeros : Int32) (v_level : Int32) (v_sum : Int32) (v_tail : Int32) (v_isPlayed : Int32) (v_found : Int32) (v_strange : Int32) (v_innerFails : Int32) (v_outerFails : Int32) (v_mostMarks : Int32) (v_unsure : Int32) (v_may : Int32) (v_mocks : Int32) (v_sumThen : Int32) (v_got : Nat → Int32) (v_sure : Nat → Int32) : va_W := [oX10 a_this av v_thrown v_size v_begins v_entries v_length v_pressed v_streamFrames v_zeros v_level v_sum v_tail v_isPlayed v_found v_strange v_innerFails v_outerFails v_mostMarks v_unsure v_may v_mocks v_sumThen, ((av 42), .inl (cI, 11736, .inl v_got)), ((av 43), .inl (cZ, 11736, .inl v_sure))]
def fX10_heard_L40 (x1 : Int32) (v_streamFrames : Int32) (v_sure : Nat → Int32) (x2 : Int32) (v_got : Nat → Int32) : Nat → Int32 → Int32 → Option (Int32 × Int32)
  | 0, _, _ => none
  | F40_7 + 1, x4_5, x3_6 => if x1 < x4_5 then some (x3_6, 0) else ob1 (fX10_isSampleSure v_streamFrames v_sure x4_5 x2) fun r_9 => jk (fun (t_11 : Int32) => nm (x4_5 + 1 : Int32) fun x4_13 => fX10_heard_L40 x1 v_streamFrames v_sure x2 v_got F40_7 x4_13 t_11) fun j95_12 => if r_9 = 0 then ob1 (fX10_isSampleSure v_streamFrames v_sure (x4_5 + (1 : Int32)) x2) fun r_15 => if r_15 = 0 then j95_12 x3_6 else ob1 (fX10_sample v_got (x4_5 + (1 : Int32)) x2) fun r_18 => j95_12 ((x3_6 + r_18) >>> ((1 : Int32) &&& 31) : Int32) else ob1 (fX10_sample v_got x4_5 x2) fun r_20 => j95_12 r_20
def fX10_heard (v_isPlayed : Int32) (v_streamFrames : Int32) (v_thrown : Int32) (v_got : Nat → Int32) (v_sure : Nat → Int32) (x1 : Int32) (x2 : Int32) : Option (Int32 × Int32) := if v_isPlayed = 0 then some (65536, 0) else nt1 (fX10_in (Int32.toInt64 x1) 0 (Int32.toInt64 (((6 : Int32) * v_streamFrames) - (1 : Int32)))) fun r_2 => if r_2 = 0 then some (65536, 0) else fX10_heard_L40 x1 v_streamFrames v_sure x2 v_got FU 0 0
set_option maxHeartbeats 4000000 in
set_option maxRecDepth 100000 in
theorem ct_X10_heard (l : Launch) (D : va_G) (cB cI cZ : ClassId) (tw : Nat) (av : Nat → Nat) (a_this : Nat) (v_thrown : Int32) (v_size : Int32) (v_begins : Int32) (v_entries : Int32) (v_length : Int32) (v_pressed : Int32) (v_streamFrames : Int32) (v_zeros : Int32) (v_level : Int32) (v_sum : Int32) (v_tail : Int32) (v_isPlayed : Int32) (v_found : Int32) (v_strange : Int32) (v_innerFails : Int32) (v_outerFails : Int32) (v_mostMarks : Int32) (v_unsure : Int32) (v_may : Int32) (v_mocks : Int32) (v_sumThen : Int32) (v_got : Nat → Int32) (v_sure : Nat → Int32) (x1 : Int32) (x2 : Int32) (res : Int32 × Int32) (h : fX10_heard v_isPlayed v_streamFrames v_thrown v_got v_sure x1 x2 = some res) : Ctr l yX10_heard cX10_heard 5 (some .int) (rmK 2 44) D (tyL cB cI cZ) tw [.ref a_this, .int x1, .int x2] (wX10_heard cB cI cZ av a_this v_thrown v_size v_begins v_entries v_length v_pressed v_streamFrames v_zeros v_level v_sum v_tail v_isPlayed v_found v_strange v_innerFails v_outerFails v_mostMarks v_unsure v_may v_mocks v_sumThen v_got v_sure) (fun res : Int32 × Int32 => some (.int res.1)) (fun res : Int32 × Int32 => (wX10_heard cB cI cZ av a_this (res.2) v_size v_begins v_entries v_length v_pressed v_streamFrames v_zeros v_level v_sum v_tail v_isPlayed v_found v_strange v_innerFails v_outerFails v_mostMarks v_unsure v_may v_mocks v_sumThen v_got v_sure)) res := by
  refine ctr_of RX10 (by decide) rfl (Nat.le_of_ble_eq_true rfl) ?_
  intro p e s m below meth c A C hw ls hl
  have hx := C.1
  have hb := C.2.1
  have hl : lv_has ls 5 [(0, .ref a_this), (1, .int x1), (2, .int x2)] := hl
  unfold fX10_heard at h
  refine lv_aload_n (pc := 0) hx hb dX10_heard_0 rfl (lv_at hl 0 rfl) ?_
  refine lv_iconst (pc := 1) (v := 0) hx hb dX10_heard_1 (by decide) ?_
  refine pf_X10_100 (pc := 2) (wX10_heard cB cI cZ av a_this 0 v_size v_begins v_entries v_length v_pressed v_streamFrames v_zeros v_level v_sum v_tail v_isPlayed v_found v_strange v_innerFails v_outerFails v_mostMarks v_unsure v_may v_mocks v_sumThen v_got v_sure) C hw 0 rfl rfl rfl rfl (Nat.le_of_ble_eq_true rfl) dX10_heard_2 (fun H locs hw => ?_)
  refine lv_aload_n (pc := 5) hx hb dX10_heard_5 rfl (lv_at hl 0 rfl) ?_
  refine gf_X10_250 (pc := 6) C hw 0 rfl rfl dX10_heard_6 ?_
  refine lv_if_eq (pc := 9) (tgt := 31) hx hb dX10_heard_9 (by decide) (fun hc_1 => ?_) (fun hc_1 => ?_)
  · have h := ift hc_1 h
    refine lv_ldcw (own := RX10) (v := 65536) hx hb C.2.2.2.1 (C.2.2.2.2.1 _ tw_1454) dX10_heard_31 ?_
    exact x_iret (pc := 34) (v := (65536, 0)) C (Option.some.inj h) rfl hw dX10_heard_34
  · have h := iff' hc_1 h
    refine lv_iload_n (pc := 12) hx hb dX10_heard_12 rfl (lv_at hl 1 rfl) ?_
    refine lv_i2l (pc := 13) hx hb dX10_heard_13 rfl ?_
    refine lv_lconst (pc := 14) (v := 0) hx hb dX10_heard_14 (by decide) ?_
    refine lv_bipush (pc := 15) (v := 6) hx hb dX10_heard_15 (by decide) ?_
    refine lv_aload_n (pc := 17) hx hb dX10_heard_17 rfl (lv_at hl 0 rfl) ?_
    refine gf_X10_169 (pc := 18) C hw 0 rfl rfl dX10_heard_18 ?_
    refine lv_imul (pc := 21) hx hb dX10_heard_21 ?_
    refine lv_iconst (pc := 22) (v := 1) hx hb dX10_heard_22 (by decide) ?_
    refine lv_isub (pc := 23) hx hb dX10_heard_23 ?_
    refine lv_i2l (pc := 24) hx hb dX10_heard_24 rfl ?_
    obtain ⟨r_2, hq_3, h⟩ := nt1_at h
    refine x_callS (pc := 25) (rest := []) (stk := [.int r_2]) (wX10_heard cB cI cZ av a_this 0 v_size v_begins v_entries v_length v_pressed v_streamFrames v_zeros v_level v_sum v_tail v_isPlayed v_found v_strange v_innerFails v_outerFails v_mostMarks v_unsure v_may v_mocks v_sumThen v_got v_sure) C hw (ct_X10_in l D cB cI cZ tw av (Int32.toInt64 x1) 0 (Int32.toInt64 (((6 : Int32) * v_streamFrames) - (1 : Int32))) r_2 hq_3.symm) cal_X10_in tw_1176 [] [0, 1, 2] 3 [oX10 a_this av 0 v_size v_begins v_entries v_length v_pressed v_streamFrames v_zeros v_level v_sum v_tail v_isPlayed v_found v_strange v_innerFails v_outerFails v_mostMarks v_unsure v_may v_mocks v_sumThen, ((av 42), .inl (cI, 11736, .inl v_got)), ((av 43), .inl (cZ, 11736, .inl v_sure))] rfl rfl rfl rfl rfl rfl rfl rfl rfl rfl rfl (Nat.le_of_ble_eq_true rfl) hl.1 ⟨Nat.le_of_ble_eq_true rfl, Nat.le_of_ble_eq_true rfl⟩ ⟨Nat.zero_le _, Nat.zero_le _⟩ dX10_heard_25 (fun H locs hw => ?_)
    refine lv_if_ne (pc := 28) (tgt := 35) hx hb dX10_heard_28 (by decide) (fun hc_4 => ?_) (fun hc_4 => ?_)
    · have h := iff' hc_4 h
      refine lv_iconst (pc := 35) (v := 0) hx hb dX10_heard_35 (by decide) ?_
      refine lv_istore_n (pc := 36) (lv' := [(3, .int 0), (0, .ref a_this), (1, .int x1), (2, .int x2)]) hx hb dX10_heard_36 rfl hl (by decide) rfl (fun ls hl => ?_)
      refine lv_iconst (pc := 37) (v := 0) hx hb dX10_heard_37 (by decide) ?_
      refine lv_istore (pc := 38) (lv' := [(4, .int 0), (3, .int 0), (0, .ref a_this), (1, .int x1), (2, .int x2)]) hx hb dX10_heard_38 hl (by decide) rfl (fun ls hl => ?_)
      have Lih40_7 : ∀ (F : Nat) (x4_5 : Int32) (x3_6 : Int32) (ls : Array Slot) (H : Heap) (locs : List Loc), lv_has ls 5 [(4, .int x4_5), (3, .int x3_6), (0, .ref a_this), (1, .int x1), (2, .int x2)] → Wd D A s (wX10_heard cB cI cZ av a_this 0 v_size v_begins v_entries v_length v_pressed v_streamFrames v_zeros v_level v_sum v_tail v_isPlayed v_found v_strange v_innerFails v_outerFails v_mostMarks v_unsure v_may v_mocks v_sumThen v_got v_sure) H locs → fX10_heard_L40 x1 v_streamFrames v_sure x2 v_got F x4_5 x3_6 = some res → W p l e (rmK 2 44) s m ([.ref a_this, .int x1, .int x2] : List Value).toArray below meth c H locs 0 0 (MQ below (QG D (tyL cB cI cZ) A (fun res : Int32 × Int32 => some (.int res.1)) (fun res : Int32 × Int32 => (wX10_heard cB cI cZ av a_this (res.2) v_size v_begins v_entries v_length v_pressed v_streamFrames v_zeros v_level v_sum v_tail v_isPlayed v_found v_strange v_innerFails v_outerFails v_mostMarks v_unsure v_may v_mocks v_sumThen v_got v_sure)) res) ([.ref a_this, .int x1, .int x2] : List Value).toArray s 0 0 A) (F0 m 40 ls []) := by
        intro F
        induction F with
        | zero => intro x4_5 x3_6 ls H locs hl hw h; rw [fX10_heard_L40.eq_1] at h; cases h
        | succ F40_7 ih40_7 =>
          intro x4_5 x3_6 ls H locs hl hw h
          rw [fX10_heard_L40.eq_2] at h
          refine lv_iload (pc := 40) hx hb dX10_heard_40 (lv_at hl 0 rfl) ?_
          refine lv_iload_n (pc := 42) hx hb dX10_heard_42 rfl (lv_at hl 3 rfl) ?_
          refine lv_icmp_gt (pc := 43) (tgt := 102) hx hb dX10_heard_43 (by decide) (fun hc_8 => ?_) (fun hc_8 => ?_)
          · have h := ift hc_8 h
            refine lv_iload_n (pc := 102) hx hb dX10_heard_102 rfl (lv_at hl 1 rfl) ?_
            exact x_iret (pc := 103) (v := (x3_6, 0)) C (Option.some.inj h) rfl hw dX10_heard_103
          · have h := iff' hc_8 h
            refine lv_aload_n (pc := 46) hx hb dX10_heard_46 rfl (lv_at hl 2 rfl) ?_
            refine lv_iload (pc := 47) hx hb dX10_heard_47 (lv_at hl 0 rfl) ?_
            refine lv_iload_n (pc := 49) hx hb dX10_heard_49 rfl (lv_at hl 4 rfl) ?_
            obtain ⟨r_9, hq_10, h⟩ := ob1_at h
            refine x_callV (pc := 50) (rest := []) (stk := [.int r_9]) (wX10_heard cB cI cZ av a_this 0 v_size v_begins v_entries v_length v_pressed v_streamFrames v_zeros v_level v_sum v_tail v_isPlayed v_found v_strange v_innerFails v_outerFails v_mostMarks v_unsure v_may v_mocks v_sumThen v_got v_sure) C hw (ct_X10_isSampleSure l D cB cI cZ tw av a_this 0 v_size v_begins v_entries v_length v_pressed v_streamFrames v_zeros v_level v_sum v_tail v_isPlayed v_found v_strange v_innerFails v_outerFails v_mostMarks v_unsure v_may v_mocks v_sumThen v_sure x4_5 x2 r_9 hq_10) cal_X10_isSampleSure tw_1455 (q0 := 0) rfl rfl [0, 2] [1] 3 [((av 42), .inl (cI, 11736, .inl v_got))] rfl rfl rfl rfl rfl rfl rfl rfl rfl rfl rfl (Nat.le_of_ble_eq_true rfl) hl.1 ⟨Nat.le_of_ble_eq_true rfl, Nat.le_of_ble_eq_true rfl⟩ ⟨Nat.zero_le _, Nat.zero_le _⟩ dX10_heard_50 (fun H locs hw => ?_)
            obtain ⟨j95_12, ej95_12, h⟩ := jk_at h
            have J95_12 : ∀ (t_11 : Int32) (ls : Array Slot) (H : Heap) (locs : List Loc), lv_has ls 5 [(4, .int x4_5), (0, .ref a_this), (1, .int x1), (2, .int x2)] → Wd D A s (wX10_heard cB cI cZ av a_this 0 v_size v_begins v_entries v_length v_pressed v_streamFrames v_zeros v_level v_sum v_tail v_isPlayed v_found v_strange v_innerFails v_outerFails v_mostMarks v_unsure v_may v_mocks v_sumThen v_got v_sure) H locs → j95_12 t_11 = some res → W p l e (rmK 2 44) s m ([.ref a_this, .int x1, .int x2] : List Value).toArray below meth c H locs 0 0 (MQ below (QG D (tyL cB cI cZ) A (fun res : Int32 × Int32 => some (.int res.1)) (fun res : Int32 × Int32 => (wX10_heard cB cI cZ av a_this (res.2) v_size v_begins v_entries v_length v_pressed v_streamFrames v_zeros v_level v_sum v_tail v_isPlayed v_found v_strange v_innerFails v_outerFails v_mostMarks v_unsure v_may v_mocks v_sumThen v_got v_sure)) res) ([.ref a_this, .int x1, .int x2] : List Value).toArray s 0 0 A) (F0 m 95 ls [.int t_11]) := by
              intro t_11 ls H locs hl hw h
              have h := k1_at ej95_12 h
              refine lv_istore_n (pc := 95) (lv' := [(3, .int t_11), (4, .int x4_5), (0, .ref a_this), (1, .int x1), (2, .int x2)]) hx hb dX10_heard_95 rfl hl (by decide) rfl (fun ls hl => ?_)
              obtain ⟨x4_13, ex4_13⟩ : ∃ y : Int32, y = x4_5 + 1 := ⟨_, rfl⟩
              have h := nm_at ex4_13 h
              refine lv_iinc (pc := 96) (v := x4_13) (lv' := [(4, .int x4_13), (3, .int t_11), (0, .ref a_this), (1, .int x1), (2, .int x2)]) hx hb dX10_heard_96 hl (k := 1) rfl (by rw [ex4_13]; rfl) (by decide) rfl (fun ls hl => ?_)
              refine lv_goto (pc := 99) (tgt := 40) hx hb dX10_heard_99 (by decide) ?_
              exact ih40_7 x4_13 t_11 ls _ _ (lv_sub hl [0, 1, 2, 3, 4] rfl) hw h
            refine lv_if_eq (pc := 53) (tgt := 66) hx hb dX10_heard_53 (by decide) (fun hc_14 => ?_) (fun hc_14 => ?_)
            · have h := ift hc_14 h
              refine lv_aload_n (pc := 66) hx hb dX10_heard_66 rfl (lv_at hl 2 rfl) ?_
              refine lv_iload (pc := 67) hx hb dX10_heard_67 (lv_at hl 0 rfl) ?_
              refine lv_iconst (pc := 69) (v := 1) hx hb dX10_heard_69 (by decide) ?_
              refine lv_iadd (pc := 70) hx hb dX10_heard_70 ?_
              refine lv_iload_n (pc := 71) hx hb dX10_heard_71 rfl (lv_at hl 4 rfl) ?_
              obtain ⟨r_15, hq_16, h⟩ := ob1_at h
              refine x_callV (pc := 72) (rest := []) (stk := [.int r_15]) (wX10_heard cB cI cZ av a_this 0 v_size v_begins v_entries v_length v_pressed v_streamFrames v_zeros v_level v_sum v_tail v_isPlayed v_found v_strange v_innerFails v_outerFails v_mostMarks v_unsure v_may v_mocks v_sumThen v_got v_sure) C hw (ct_X10_isSampleSure l D cB cI cZ tw av a_this 0 v_size v_begins v_entries v_length v_pressed v_streamFrames v_zeros v_level v_sum v_tail v_isPlayed v_found v_strange v_innerFails v_outerFails v_mostMarks v_unsure v_may v_mocks v_sumThen v_sure (x4_5 + (1 : Int32)) x2 r_15 hq_16) cal_X10_isSampleSure tw_1455 (q0 := 0) rfl rfl [0, 2] [1] 3 [((av 42), .inl (cI, 11736, .inl v_got))] rfl rfl rfl rfl rfl rfl rfl rfl rfl rfl rfl (Nat.le_of_ble_eq_true rfl) hl.1 ⟨Nat.le_of_ble_eq_true rfl, Nat.le_of_ble_eq_true rfl⟩ ⟨Nat.zero_le _, Nat.zero_le _⟩ dX10_heard_72 (fun H locs hw => ?_)
              refine lv_if_eq (pc := 75) (tgt := 94) hx hb dX10_heard_75 (by decide) (fun hc_17 => ?_) (fun hc_17 => ?_)
              · have h := ift hc_17 h
                refine lv_iload_n (pc := 94) hx hb dX10_heard_94 rfl (lv_at hl 1 rfl) ?_
                exact J95_12 x3_6 ls _ _ (lv_sub hl [0, 2, 3, 4] rfl) hw h
              · have h := iff' hc_17 h
                refine lv_iload_n (pc := 78) hx hb dX10_heard_78 rfl (lv_at hl 1 rfl) ?_
                refine lv_aload_n (pc := 79) hx hb dX10_heard_79 rfl (lv_at hl 2 rfl) ?_
                refine lv_iload (pc := 80) hx hb dX10_heard_80 (lv_at hl 0 rfl) ?_
                refine lv_iconst (pc := 82) (v := 1) hx hb dX10_heard_82 (by decide) ?_
                refine lv_iadd (pc := 83) hx hb dX10_heard_83 ?_
                refine lv_iload_n (pc := 84) hx hb dX10_heard_84 rfl (lv_at hl 4 rfl) ?_
                obtain ⟨r_18, hq_19, h⟩ := ob1_at h
                refine x_callV (pc := 85) (rest := [.int x3_6]) (stk := [.int r_18, .int x3_6]) (wX10_heard cB cI cZ av a_this 0 v_size v_begins v_entries v_length v_pressed v_streamFrames v_zeros v_level v_sum v_tail v_isPlayed v_found v_strange v_innerFails v_outerFails v_mostMarks v_unsure v_may v_mocks v_sumThen v_got v_sure) C hw (ct_X10_sample l D cB cI cZ tw av a_this 0 v_size v_begins v_entries v_length v_pressed v_streamFrames v_zeros v_level v_sum v_tail v_isPlayed v_found v_strange v_innerFails v_outerFails v_mostMarks v_unsure v_may v_mocks v_sumThen v_got (x4_5 + (1 : Int32)) x2 r_18 hq_19) cal_X10_sample tw_1462 (q0 := 0) rfl rfl [0, 1] [2] 3 [((av 43), .inl (cZ, 11736, .inl v_sure))] rfl rfl rfl rfl rfl rfl rfl rfl rfl rfl rfl (Nat.le_of_ble_eq_true rfl) hl.1 ⟨Nat.le_of_ble_eq_true rfl, Nat.le_of_ble_eq_true rfl⟩ ⟨Nat.zero_le _, Nat.zero_le _⟩ dX10_heard_85 (fun H locs hw => ?_)
                refine lv_iadd (pc := 88) hx hb dX10_heard_88 ?_
                refine lv_iconst (pc := 89) (v := 1) hx hb dX10_heard_89 (by decide) ?_
                refine lv_ishr (pc := 90) hx hb dX10_heard_90 ?_
                refine lv_goto (pc := 91) (tgt := 95) hx hb dX10_heard_91 (by decide) ?_
                exact J95_12 ((x3_6 + r_18) >>> ((1 : Int32) &&& 31) : Int32) ls _ _ (lv_sub hl [0, 2, 3, 4] rfl) hw h
            · have h := iff' hc_14 h
              refine lv_aload_n (pc := 56) hx hb dX10_heard_56 rfl (lv_at hl 2 rfl) ?_
              refine lv_iload (pc := 57) hx hb dX10_heard_57 (lv_at hl 0 rfl) ?_
              refine lv_iload_n (pc := 59) hx hb dX10_heard_59 rfl (lv_at hl 4 rfl) ?_
              obtain ⟨r_20, hq_21, h⟩ := ob1_at h
              refine x_callV (pc := 60) (rest := []) (stk := [.int r_20]) (wX10_heard cB cI cZ av a_this 0 v_size v_begins v_entries v_length v_pressed v_streamFrames v_zeros v_level v_sum v_tail v_isPlayed v_found v_strange v_innerFails v_outerFails v_mostMarks v_unsure v_may v_mocks v_sumThen v_got v_sure) C hw (ct_X10_sample l D cB cI cZ tw av a_this 0 v_size v_begins v_entries v_length v_pressed v_streamFrames v_zeros v_level v_sum v_tail v_isPlayed v_found v_strange v_innerFails v_outerFails v_mostMarks v_unsure v_may v_mocks v_sumThen v_got x4_5 x2 r_20 hq_21) cal_X10_sample tw_1462 (q0 := 0) rfl rfl [0, 1] [2] 3 [((av 43), .inl (cZ, 11736, .inl v_sure))] rfl rfl rfl rfl rfl rfl rfl rfl rfl rfl rfl (Nat.le_of_ble_eq_true rfl) hl.1 ⟨Nat.le_of_ble_eq_true rfl, Nat.le_of_ble_eq_true rfl⟩ ⟨Nat.zero_le _, Nat.zero_le _⟩ dX10_heard_60 (fun H locs hw => ?_)
              refine lv_goto (pc := 63) (tgt := 95) hx hb dX10_heard_63 (by decide) ?_
              exact J95_12 r_20 ls _ _ (lv_sub hl [0, 2, 3, 4] rfl) hw h
      exact Lih40_7 FU 0 0 ls _ _ (lv_sub hl [0, 1, 2, 3, 4] rfl) hw h
    · have h := ift hc_4 h
      refine lv_ldcw (own := RX10) (v := 65536) hx hb C.2.2.2.1 (C.2.2.2.2.1 _ tw_1454) dX10_heard_31 ?_
      exact x_iret (pc := 34) (v := (65536, 0)) C (Option.some.inj h) rfl hw dX10_heard_34
def wX10_inner (cB cI cZ : ClassId) (av : Nat → Nat) (a_this : Nat) (v_thrown : Int32) (v_size : Int32) (v_begins : Int32) (v_entries : Int32) (v_length : Int32) (v_pressed : Int32) (v_streamFrames : Int32) (v_zeros : Int32) (v_level : Int32) (v_sum : Int32) (v_tail : Int32) (v_isPlayed : Int32) (v_found : Int32) (v_strange : Int32) (v_innerFails : Int32) (v_outerFails : Int32) (v_mostMarks : Int32) (v_unsure : Int32) (v_may : Int32) (v_mocks : Int32) (v_sumThen : Int32) (v_innerTold : Nat → Int32) : va_W := [oX10 a_this av v_thrown v_size v_begins v_entries v_length v_pressed v_streamFrames v_zeros v_level v_sum v_tail v_isPlayed v_found v_strange v_innerFails v_outerFails v_mostMarks v_unsure v_may v_mocks v_sumThen, ((av 30), .inl (cI, 640, .inl v_innerTold))]
def fX10_inner (v_found : Int32) (v_isPlayed : Int32) (v_thrown : Int32) (v_innerTold : Nat → Int32) (x1 : Int32) : Option (Int32 × Int32) := if v_isPlayed = 0 then some ((-1), 0) else nt1 (fX10_in (Int32.toInt64 x1) 0 (Int32.toInt64 (v_found - (1 : Int32)))) fun r_2 => if r_2 = 0 then some ((-1), 0) else og (ixb x1 640) (some ((v_innerTold (Int32.toNatClampNeg x1)), 0))
set_option maxHeartbeats 4000000 in
set_option maxRecDepth 100000 in
theorem ct_X10_inner (l : Launch) (D : va_G) (cB cI cZ : ClassId) (tw : Nat) (av : Nat → Nat) (a_this : Nat) (v_thrown : Int32) (v_size : Int32) (v_begins : Int32) (v_entries : Int32) (v_length : Int32) (v_pressed : Int32) (v_streamFrames : Int32) (v_zeros : Int32) (v_level : Int32) (v_sum : Int32) (v_tail : Int32) (v_isPlayed : Int32) (v_found : Int32) (v_strange : Int32) (v_innerFails : Int32) (v_outerFails : Int32) (v_mostMarks : Int32) (v_unsure : Int32) (v_may : Int32) (v_mocks : Int32) (v_sumThen : Int32) (v_innerTold : Nat → Int32) (x1 : Int32) (res : Int32 × Int32) (h : fX10_inner v_found v_isPlayed v_thrown v_innerTold x1 = some res) : Ctr l yX10_inner cX10_inner 2 (some .int) (rmK 1 25) D (tyL cB cI cZ) tw [.ref a_this, .int x1] (wX10_inner cB cI cZ av a_this v_thrown v_size v_begins v_entries v_length v_pressed v_streamFrames v_zeros v_level v_sum v_tail v_isPlayed v_found v_strange v_innerFails v_outerFails v_mostMarks v_unsure v_may v_mocks v_sumThen v_innerTold) (fun res : Int32 × Int32 => some (.int res.1)) (fun res : Int32 × Int32 => (wX10_inner cB cI cZ av a_this (res.2) v_size v_begins v_entries v_length v_pressed v_streamFrames v_zeros v_level v_sum v_tail v_isPlayed v_found v_strange v_innerFails v_outerFails v_mostMarks v_unsure v_may v_mocks v_sumThen v_innerTold)) res := by
  refine ctr_of RX10 (by decide) rfl (Nat.le_of_ble_eq_true rfl) ?_
  intro p e s m below meth c A C hw ls hl
  have hx := C.1
  have hb := C.2.1
  have hl : lv_has ls 2 [(0, .ref a_this), (1, .int x1)] := hl
  unfold fX10_inner at h
  refine lv_aload_n (pc := 0) hx hb dX10_inner_0 rfl (lv_at hl 0 rfl) ?_
  refine lv_iconst (pc := 1) (v := 0) hx hb dX10_inner_1 (by decide) ?_
  refine pf_X10_100 (pc := 2) (wX10_inner cB cI cZ av a_this 0 v_size v_begins v_entries v_length v_pressed v_streamFrames v_zeros v_level v_sum v_tail v_isPlayed v_found v_strange v_innerFails v_outerFails v_mostMarks v_unsure v_may v_mocks v_sumThen v_innerTold) C hw 0 rfl rfl rfl rfl (Nat.le_of_ble_eq_true rfl) dX10_inner_2 (fun H locs hw => ?_)
  refine lv_aload_n (pc := 5) hx hb dX10_inner_5 rfl (lv_at hl 0 rfl) ?_
  refine gf_X10_250 (pc := 6) C hw 0 rfl rfl dX10_inner_6 ?_
  refine lv_if_eq (pc := 9) (tgt := 37) hx hb dX10_inner_9 (by decide) (fun hc_1 => ?_) (fun hc_1 => ?_)
  · have h := ift hc_1 h
    refine lv_iconst (pc := 37) (v := (-1)) hx hb dX10_inner_37 (by decide) ?_
    exact x_iret (pc := 38) (v := ((-1), 0)) C (Option.some.inj h) rfl hw dX10_inner_38
  · have h := iff' hc_1 h
    refine lv_iload_n (pc := 12) hx hb dX10_inner_12 rfl (lv_at hl 1 rfl) ?_
    refine lv_i2l (pc := 13) hx hb dX10_inner_13 rfl ?_
    refine lv_lconst (pc := 14) (v := 0) hx hb dX10_inner_14 (by decide) ?_
    refine lv_aload_n (pc := 15) hx hb dX10_inner_15 rfl (lv_at hl 0 rfl) ?_
    refine gf_X10_296 (pc := 16) C hw 0 rfl rfl dX10_inner_16 ?_
    refine lv_iconst (pc := 19) (v := 1) hx hb dX10_inner_19 (by decide) ?_
    refine lv_isub (pc := 20) hx hb dX10_inner_20 ?_
    refine lv_i2l (pc := 21) hx hb dX10_inner_21 rfl ?_
    obtain ⟨r_2, hq_3, h⟩ := nt1_at h
    refine x_callS (pc := 22) (rest := []) (stk := [.int r_2]) (wX10_inner cB cI cZ av a_this 0 v_size v_begins v_entries v_length v_pressed v_streamFrames v_zeros v_level v_sum v_tail v_isPlayed v_found v_strange v_innerFails v_outerFails v_mostMarks v_unsure v_may v_mocks v_sumThen v_innerTold) C hw (ct_X10_in l D cB cI cZ tw av (Int32.toInt64 x1) 0 (Int32.toInt64 (v_found - (1 : Int32))) r_2 hq_3.symm) cal_X10_in tw_1176 [] [0, 1] 2 [oX10 a_this av 0 v_size v_begins v_entries v_length v_pressed v_streamFrames v_zeros v_level v_sum v_tail v_isPlayed v_found v_strange v_innerFails v_outerFails v_mostMarks v_unsure v_may v_mocks v_sumThen, ((av 30), .inl (cI, 640, .inl v_innerTold))] rfl rfl rfl rfl rfl rfl rfl rfl rfl rfl rfl (Nat.le_of_ble_eq_true rfl) hl.1 ⟨Nat.le_of_ble_eq_true rfl, Nat.le_of_ble_eq_true rfl⟩ ⟨Nat.zero_le _, Nat.zero_le _⟩ dX10_inner_22 (fun H locs hw => ?_)
    refine lv_if_eq (pc := 25) (tgt := 37) hx hb dX10_inner_25 (by decide) (fun hc_4 => ?_) (fun hc_4 => ?_)
    · have h := ift hc_4 h
      refine lv_iconst (pc := 37) (v := (-1)) hx hb dX10_inner_37 (by decide) ?_
      exact x_iret (pc := 38) (v := ((-1), 0)) C (Option.some.inj h) rfl hw dX10_inner_38
    · have h := iff' hc_4 h
      refine lv_aload_n (pc := 28) hx hb dX10_inner_28 rfl (lv_at hl 0 rfl) ?_
      refine gf_X10_70 (pc := 29) C hw 0 rfl rfl dX10_inner_29 ?_
      refine lv_iload_n (pc := 32) hx hb dX10_inner_32 rfl (lv_at hl 1 rfl) ?_
      obtain ⟨hi_5, h⟩ := og_at h
      refine x_iald (pc := 33) C hw 1 rfl hi_5 dX10_inner_33 ?_
      refine lv_goto (pc := 34) (tgt := 38) hx hb dX10_inner_34 (by decide) ?_
      exact x_iret (pc := 38) (v := ((v_innerTold (Int32.toNatClampNeg x1)), 0)) C (Option.some.inj h) rfl hw dX10_inner_38
def wX10_outer (cB cI cZ : ClassId) (av : Nat → Nat) (a_this : Nat) (v_thrown : Int32) (v_size : Int32) (v_begins : Int32) (v_entries : Int32) (v_length : Int32) (v_pressed : Int32) (v_streamFrames : Int32) (v_zeros : Int32) (v_level : Int32) (v_sum : Int32) (v_tail : Int32) (v_isPlayed : Int32) (v_found : Int32) (v_strange : Int32) (v_innerFails : Int32) (v_outerFails : Int32) (v_mostMarks : Int32) (v_unsure : Int32) (v_may : Int32) (v_mocks : Int32) (v_sumThen : Int32) (v_outerTold : Nat → Int32) : va_W := [oX10 a_this av v_thrown v_size v_begins v_entries v_length v_pressed v_streamFrames v_zeros v_level v_sum v_tail v_isPlayed v_found v_strange v_innerFails v_outerFails v_mostMarks v_unsure v_may v_mocks v_sumThen, ((av 33), .inl (cI, 640, .inl v_outerTold))]
def fX10_outer (v_found : Int32) (v_isPlayed : Int32) (v_thrown : Int32) (v_outerTold : Nat → Int32) (x1 : Int32) : Option (Int32 × Int32) := if v_isPlayed = 0 then some ((-1), 0) else nt1 (fX10_in (Int32.toInt64 x1) 0 (Int32.toInt64 (v_found - (1 : Int32)))) fun r_2 => if r_2 = 0 then some ((-1), 0) else og (ixb x1 640) (some ((v_outerTold (Int32.toNatClampNeg x1)), 0))
set_option maxHeartbeats 4000000 in
set_option maxRecDepth 100000 in
theorem ct_X10_outer (l : Launch) (D : va_G) (cB cI cZ : ClassId) (tw : Nat) (av : Nat → Nat) (a_this : Nat) (v_thrown : Int32) (v_size : Int32) (v_begins : Int32) (v_entries : Int32) (v_length : Int32) (v_pressed : Int32) (v_streamFrames : Int32) (v_zeros : Int32) (v_level : Int32) (v_sum : Int32) (v_tail : Int32) (v_isPlayed : Int32) (v_found : Int32) (v_strange : Int32) (v_innerFails : Int32) (v_outerFails : Int32) (v_mostMarks : Int32) (v_unsure : Int32) (v_may : Int32) (v_mocks : Int32) (v_sumThen : Int32) (v_outerTold : Nat → Int32) (x1 : Int32) (res : Int32 × Int32) (h : fX10_outer v_found v_isPlayed v_thrown v_outerTold x1 = some res) : Ctr l yX10_outer cX10_outer 2 (some .int) (rmK 1 25) D (tyL cB cI cZ) tw [.ref a_this, .int x1] (wX10_outer cB cI cZ av a_this v_thrown v_size v_begins v_entries v_length v_pressed v_streamFrames v_zeros v_level v_sum v_tail v_isPlayed v_found v_strange v_innerFails v_outerFails v_mostMarks v_unsure v_may v_mocks v_sumThen v_outerTold) (fun res : Int32 × Int32 => some (.int res.1)) (fun res : Int32 × Int32 => (wX10_outer cB cI cZ av a_this (res.2) v_size v_begins v_entries v_length v_pressed v_streamFrames v_zeros v_level v_sum v_tail v_isPlayed v_found v_strange v_innerFails v_outerFails v_mostMarks v_unsure v_may v_mocks v_sumThen v_outerTold)) res := by
  refine ctr_of RX10 (by decide) rfl (Nat.le_of_ble_eq_true rfl) ?_
  intro p e s m below meth c A C hw ls hl
  have hx := C.1
  have hb := C.2.1
  have hl : lv_has ls 2 [(0, .ref a_this), (1, .int x1)] := hl
  unfold fX10_outer at h
  refine lv_aload_n (pc := 0) hx hb dX10_outer_0 rfl (lv_at hl 0 rfl) ?_
  refine lv_iconst (pc := 1) (v := 0) hx hb dX10_outer_1 (by decide) ?_
  refine pf_X10_100 (pc := 2) (wX10_outer cB cI cZ av a_this 0 v_size v_begins v_entries v_length v_pressed v_streamFrames v_zeros v_level v_sum v_tail v_isPlayed v_found v_strange v_innerFails v_outerFails v_mostMarks v_unsure v_may v_mocks v_sumThen v_outerTold) C hw 0 rfl rfl rfl rfl (Nat.le_of_ble_eq_true rfl) dX10_outer_2 (fun H locs hw => ?_)
  refine lv_aload_n (pc := 5) hx hb dX10_outer_5 rfl (lv_at hl 0 rfl) ?_
  refine gf_X10_250 (pc := 6) C hw 0 rfl rfl dX10_outer_6 ?_
  refine lv_if_eq (pc := 9) (tgt := 37) hx hb dX10_outer_9 (by decide) (fun hc_1 => ?_) (fun hc_1 => ?_)
  · have h := ift hc_1 h
    refine lv_iconst (pc := 37) (v := (-1)) hx hb dX10_outer_37 (by decide) ?_
    exact x_iret (pc := 38) (v := ((-1), 0)) C (Option.some.inj h) rfl hw dX10_outer_38
  · have h := iff' hc_1 h
    refine lv_iload_n (pc := 12) hx hb dX10_outer_12 rfl (lv_at hl 1 rfl) ?_
    refine lv_i2l (pc := 13) hx hb dX10_outer_13 rfl ?_
    refine lv_lconst (pc := 14) (v := 0) hx hb dX10_outer_14 (by decide) ?_
    refine lv_aload_n (pc := 15) hx hb dX10_outer_15 rfl (lv_at hl 0 rfl) ?_
    refine gf_X10_296 (pc := 16) C hw 0 rfl rfl dX10_outer_16 ?_
    refine lv_iconst (pc := 19) (v := 1) hx hb dX10_outer_19 (by decide) ?_
    refine lv_isub (pc := 20) hx hb dX10_outer_20 ?_
    refine lv_i2l (pc := 21) hx hb dX10_outer_21 rfl ?_
    obtain ⟨r_2, hq_3, h⟩ := nt1_at h
    refine x_callS (pc := 22) (rest := []) (stk := [.int r_2]) (wX10_outer cB cI cZ av a_this 0 v_size v_begins v_entries v_length v_pressed v_streamFrames v_zeros v_level v_sum v_tail v_isPlayed v_found v_strange v_innerFails v_outerFails v_mostMarks v_unsure v_may v_mocks v_sumThen v_outerTold) C hw (ct_X10_in l D cB cI cZ tw av (Int32.toInt64 x1) 0 (Int32.toInt64 (v_found - (1 : Int32))) r_2 hq_3.symm) cal_X10_in tw_1176 [] [0, 1] 2 [oX10 a_this av 0 v_size v_begins v_entries v_length v_pressed v_streamFrames v_zeros v_level v_sum v_tail v_isPlayed v_found v_strange v_innerFails v_outerFails v_mostMarks v_unsure v_may v_mocks v_sumThen, ((av 33), .inl (cI, 640, .inl v_outerTold))] rfl rfl rfl rfl rfl rfl rfl rfl rfl rfl rfl (Nat.le_of_ble_eq_true rfl) hl.1 ⟨Nat.le_of_ble_eq_true rfl, Nat.le_of_ble_eq_true rfl⟩ ⟨Nat.zero_le _, Nat.zero_le _⟩ dX10_outer_22 (fun H locs hw => ?_)
    refine lv_if_eq (pc := 25) (tgt := 37) hx hb dX10_outer_25 (by decide) (fun hc_4 => ?_) (fun hc_4 => ?_)
    · have h := ift hc_4 h
      refine lv_iconst (pc := 37) (v := (-1)) hx hb dX10_outer_37 (by decide) ?_
      exact x_iret (pc := 38) (v := ((-1), 0)) C (Option.some.inj h) rfl hw dX10_outer_38
    · have h := iff' hc_4 h
      refine lv_aload_n (pc := 28) hx hb dX10_outer_28 rfl (lv_at hl 0 rfl) ?_
      refine gf_X10_79 (pc := 29) C hw 0 rfl rfl dX10_outer_29 ?_
      refine lv_iload_n (pc := 32) hx hb dX10_outer_32 rfl (lv_at hl 1 rfl) ?_
      obtain ⟨hi_5, h⟩ := og_at h
      refine x_iald (pc := 33) C hw 1 rfl hi_5 dX10_outer_33 ?_
      refine lv_goto (pc := 34) (tgt := 38) hx hb dX10_outer_34 (by decide) ?_
      exact x_iret (pc := 38) (v := ((v_outerTold (Int32.toNatClampNeg x1)), 0)) C (Option.some.inj h) rfl hw dX10_outer_38
def wX10_hidden (cB cI cZ : ClassId) (av : Nat → Nat) (a_this : Nat) (v_thrown : Int32) (v_size : Int32) (v_begins : Int32) (v_entries : Int32) (v_length : Int32) (v_pressed : Int32) (v_streamFrames : Int32) (v_zeros : Int32) (v_level : Int32) (v_sum : Int32) (v_tail : Int32) (v_isPlayed : Int32) (v_found : Int32) (v_strange : Int32) (v_innerFails : Int32) (v_outerFails : Int32) (v_mostMarks : Int32) (v_unsure : Int32) (v_may : Int32) (v_mocks : Int32) (v_sumThen : Int32) (v_sure : Nat → Int32) : va_W := [oX10 a_this av v_thrown v_size v_begins v_entries v_length v_pressed v_streamFrames v_zeros v_level v_sum v_tail v_isPlayed v_found v_strange v_innerFails v_outerFails v_mostMarks v_unsure v_may v_mocks v_sumThen, ((av 43), .inl (cZ, 11736, .inl v_sure))]
def fX10_hidden_L4 (v_streamFrames : Int32) (v_sure : Nat → Int32) : Nat → Int32 → Int32 → Option (Int32)
  | 0, _, _ => none
  | F4_3 + 1, x2_1, x1_2 => if ((6 : Int32) * v_streamFrames) ≤ x2_1 then some x1_2 else ob1 (fX10_isSampleSure v_streamFrames v_sure x2_1 0) fun r_5 => jk (fun (t_7 : Int32) => ob1 (fX10_isSampleSure v_streamFrames v_sure x2_1 1) fun r_9 => jk (fun (t_11 : Int32) => nm ((x1_2 + (t_7 + t_11)) : Int32) fun x1_13 => nm (x2_1 + 1 : Int32) fun x2_14 => fX10_hidden_L4 v_streamFrames v_sure F4_3 x2_14 x1_13) fun j44_12 => if r_9 = 0 then j44_12 1 else j44_12 0) fun j30_8 => if r_5 = 0 then j30_8 1 else j30_8 0
def fX10_hidden (v_streamFrames : Int32) (v_sure : Nat → Int32) : Option (Int32) := fX10_hidden_L4 v_streamFrames v_sure FU 0 0
set_option maxHeartbeats 4000000 in
set_option maxRecDepth 100000 in
theorem ct_X10_hidden (l : Launch) (D : va_G) (cB cI cZ : ClassId) (tw : Nat) (av : Nat → Nat) (a_this : Nat) (v_thrown : Int32) (v_size : Int32) (v_begins : Int32) (v_entries : Int32) (v_length : Int32) (v_pressed : Int32) (v_streamFrames : Int32) (v_zeros : Int32) (v_level : Int32) (v_sum : Int32) (v_tail : Int32) (v_isPlayed : Int32) (v_found : Int32) (v_strange : Int32) (v_innerFails : Int32) (v_outerFails : Int32) (v_mostMarks : Int32) (v_unsure : Int32) (v_may : Int32) (v_mocks : Int32) (v_sumThen : Int32) (v_sure : Nat → Int32) (res : Int32) (h : fX10_hidden v_streamFrames v_sure = some res) : Ctr l yX10_hidden cX10_hidden 3 (some .int) (rmK 2 44) D (tyL cB cI cZ) tw [.ref a_this] (wX10_hidden cB cI cZ av a_this v_thrown v_size v_begins v_entries v_length v_pressed v_streamFrames v_zeros v_level v_sum v_tail v_isPlayed v_found v_strange v_innerFails v_outerFails v_mostMarks v_unsure v_may v_mocks v_sumThen v_sure) (fun res : Int32 => some (.int res)) (fun res : Int32 => (wX10_hidden cB cI cZ av a_this v_thrown v_size v_begins v_entries v_length v_pressed v_streamFrames v_zeros v_level v_sum v_tail v_isPlayed v_found v_strange v_innerFails v_outerFails v_mostMarks v_unsure v_may v_mocks v_sumThen v_sure)) res := by
  refine ctr_of RX10 (by decide) rfl (Nat.le_of_ble_eq_true rfl) ?_
  intro p e s m below meth c A C hw ls hl
  have hx := C.1
  have hb := C.2.1
  have hl : lv_has ls 3 [(0, .ref a_this)] := hl
  unfold fX10_hidden at h
  refine lv_iconst (pc := 0) (v := 0) hx hb dX10_hidden_0 (by decide) ?_
  refine lv_istore_n (pc := 1) (lv' := [(1, .int 0), (0, .ref a_this)]) hx hb dX10_hidden_1 rfl hl (by decide) rfl (fun ls hl => ?_)
  refine lv_iconst (pc := 2) (v := 0) hx hb dX10_hidden_2 (by decide) ?_
  refine lv_istore_n (pc := 3) (lv' := [(2, .int 0), (1, .int 0), (0, .ref a_this)]) hx hb dX10_hidden_3 rfl hl (by decide) rfl (fun ls hl => ?_)
  have Lih4_3 : ∀ (F : Nat) (x2_1 : Int32) (x1_2 : Int32) (ls : Array Slot) (H : Heap) (locs : List Loc), lv_has ls 3 [(2, .int x2_1), (1, .int x1_2), (0, .ref a_this)] → Wd D A s (wX10_hidden cB cI cZ av a_this v_thrown v_size v_begins v_entries v_length v_pressed v_streamFrames v_zeros v_level v_sum v_tail v_isPlayed v_found v_strange v_innerFails v_outerFails v_mostMarks v_unsure v_may v_mocks v_sumThen v_sure) H locs → fX10_hidden_L4 v_streamFrames v_sure F x2_1 x1_2 = some res → W p l e (rmK 2 44) s m ([.ref a_this] : List Value).toArray below meth c H locs 0 0 (MQ below (QG D (tyL cB cI cZ) A (fun res : Int32 => some (.int res)) (fun res : Int32 => (wX10_hidden cB cI cZ av a_this v_thrown v_size v_begins v_entries v_length v_pressed v_streamFrames v_zeros v_level v_sum v_tail v_isPlayed v_found v_strange v_innerFails v_outerFails v_mostMarks v_unsure v_may v_mocks v_sumThen v_sure)) res) ([.ref a_this] : List Value).toArray s 0 0 A) (F0 m 4 ls []) := by
    intro F
    induction F with
    | zero => intro x2_1 x1_2 ls H locs hl hw h; rw [fX10_hidden_L4.eq_1] at h; cases h
    | succ F4_3 ih4_3 =>
      intro x2_1 x1_2 ls H locs hl hw h
      rw [fX10_hidden_L4.eq_2] at h
      refine lv_iload_n (pc := 4) hx hb dX10_hidden_4 rfl (lv_at hl 0 rfl) ?_
      refine lv_bipush (pc := 5) (v := 6) hx hb dX10_hidden_5 (by decide) ?_
      refine lv_aload_n (pc := 7) hx hb dX10_hidden_7 rfl (lv_at hl 2 rfl) ?_
      refine gf_X10_169 (pc := 8) C hw 0 rfl rfl dX10_hidden_8 ?_
      refine lv_imul (pc := 11) hx hb dX10_hidden_11 ?_
      refine lv_icmp_ge (pc := 12) (tgt := 53) hx hb dX10_hidden_12 (by decide) (fun hc_4 => ?_) (fun hc_4 => ?_)
      · have h := ift hc_4 h
        refine lv_iload_n (pc := 53) hx hb dX10_hidden_53 rfl (lv_at hl 1 rfl) ?_
        exact x_iret (pc := 54) (v := x1_2) C (Option.some.inj h) rfl hw dX10_hidden_54
      · have h := iff' hc_4 h
        refine lv_iload_n (pc := 15) hx hb dX10_hidden_15 rfl (lv_at hl 1 rfl) ?_
        refine lv_aload_n (pc := 16) hx hb dX10_hidden_16 rfl (lv_at hl 2 rfl) ?_
        refine lv_iload_n (pc := 17) hx hb dX10_hidden_17 rfl (lv_at hl 0 rfl) ?_
        refine lv_iconst (pc := 18) (v := 0) hx hb dX10_hidden_18 (by decide) ?_
        obtain ⟨r_5, hq_6, h⟩ := ob1_at h
        refine x_callV (pc := 19) (rest := [.int x1_2]) (stk := [.int r_5, .int x1_2]) (wX10_hidden cB cI cZ av a_this v_thrown v_size v_begins v_entries v_length v_pressed v_streamFrames v_zeros v_level v_sum v_tail v_isPlayed v_found v_strange v_innerFails v_outerFails v_mostMarks v_unsure v_may v_mocks v_sumThen v_sure) C hw (ct_X10_isSampleSure l D cB cI cZ tw av a_this v_thrown v_size v_begins v_entries v_length v_pressed v_streamFrames v_zeros v_level v_sum v_tail v_isPlayed v_found v_strange v_innerFails v_outerFails v_mostMarks v_unsure v_may v_mocks v_sumThen v_sure x2_1 0 r_5 hq_6) cal_X10_isSampleSure tw_1455 (q0 := 0) rfl rfl [0, 1] [] 2 [] rfl rfl rfl rfl rfl rfl rfl rfl rfl rfl rfl (Nat.le_of_ble_eq_true rfl) hl.1 ⟨Nat.le_of_ble_eq_true rfl, Nat.le_of_ble_eq_true rfl⟩ ⟨Nat.zero_le _, Nat.zero_le _⟩ dX10_hidden_19 (fun H locs hw => ?_)
        obtain ⟨j30_8, ej30_8, h⟩ := jk_at h
        have J30_8 : ∀ (t_7 : Int32) (ls : Array Slot) (H : Heap) (locs : List Loc), lv_has ls 3 [(2, .int x2_1), (0, .ref a_this)] → Wd D A s (wX10_hidden cB cI cZ av a_this v_thrown v_size v_begins v_entries v_length v_pressed v_streamFrames v_zeros v_level v_sum v_tail v_isPlayed v_found v_strange v_innerFails v_outerFails v_mostMarks v_unsure v_may v_mocks v_sumThen v_sure) H locs → j30_8 t_7 = some res → W p l e (rmK 2 44) s m ([.ref a_this] : List Value).toArray below meth c H locs 0 0 (MQ below (QG D (tyL cB cI cZ) A (fun res : Int32 => some (.int res)) (fun res : Int32 => (wX10_hidden cB cI cZ av a_this v_thrown v_size v_begins v_entries v_length v_pressed v_streamFrames v_zeros v_level v_sum v_tail v_isPlayed v_found v_strange v_innerFails v_outerFails v_mostMarks v_unsure v_may v_mocks v_sumThen v_sure)) res) ([.ref a_this] : List Value).toArray s 0 0 A) (F0 m 30 ls [.int t_7, .int x1_2]) := by
          intro t_7 ls H locs hl hw h
          have h := k1_at ej30_8 h
          refine lv_aload_n (pc := 30) hx hb dX10_hidden_30 rfl (lv_at hl 1 rfl) ?_
          refine lv_iload_n (pc := 31) hx hb dX10_hidden_31 rfl (lv_at hl 0 rfl) ?_
          refine lv_iconst (pc := 32) (v := 1) hx hb dX10_hidden_32 (by decide) ?_
          obtain ⟨r_9, hq_10, h⟩ := ob1_at h
          refine x_callV (pc := 33) (rest := [.int t_7, .int x1_2]) (stk := [.int r_9, .int t_7, .int x1_2]) (wX10_hidden cB cI cZ av a_this v_thrown v_size v_begins v_entries v_length v_pressed v_streamFrames v_zeros v_level v_sum v_tail v_isPlayed v_found v_strange v_innerFails v_outerFails v_mostMarks v_unsure v_may v_mocks v_sumThen v_sure) C hw (ct_X10_isSampleSure l D cB cI cZ tw av a_this v_thrown v_size v_begins v_entries v_length v_pressed v_streamFrames v_zeros v_level v_sum v_tail v_isPlayed v_found v_strange v_innerFails v_outerFails v_mostMarks v_unsure v_may v_mocks v_sumThen v_sure x2_1 1 r_9 hq_10) cal_X10_isSampleSure tw_1455 (q0 := 0) rfl rfl [0, 1] [] 2 [] rfl rfl rfl rfl rfl rfl rfl rfl rfl rfl rfl (Nat.le_of_ble_eq_true rfl) hl.1 ⟨Nat.le_of_ble_eq_true rfl, Nat.le_of_ble_eq_true rfl⟩ ⟨Nat.zero_le _, Nat.zero_le _⟩ dX10_hidden_33 (fun H locs hw => ?_)
          obtain ⟨j44_12, ej44_12, h⟩ := jk_at h
          have J44_12 : ∀ (t_11 : Int32) (ls : Array Slot) (H : Heap) (locs : List Loc), lv_has ls 3 [(2, .int x2_1), (0, .ref a_this)] → Wd D A s (wX10_hidden cB cI cZ av a_this v_thrown v_size v_begins v_entries v_length v_pressed v_streamFrames v_zeros v_level v_sum v_tail v_isPlayed v_found v_strange v_innerFails v_outerFails v_mostMarks v_unsure v_may v_mocks v_sumThen v_sure) H locs → j44_12 t_11 = some res → W p l e (rmK 2 44) s m ([.ref a_this] : List Value).toArray below meth c H locs 0 0 (MQ below (QG D (tyL cB cI cZ) A (fun res : Int32 => some (.int res)) (fun res : Int32 => (wX10_hidden cB cI cZ av a_this v_thrown v_size v_begins v_entries v_length v_pressed v_streamFrames v_zeros v_level v_sum v_tail v_isPlayed v_found v_strange v_innerFails v_outerFails v_mostMarks v_unsure v_may v_mocks v_sumThen v_sure)) res) ([.ref a_this] : List Value).toArray s 0 0 A) (F0 m 44 ls [.int t_11, .int t_7, .int x1_2]) := by
            intro t_11 ls H locs hl hw h
            have h := k1_at ej44_12 h
            refine lv_iadd (pc := 44) hx hb dX10_hidden_44 ?_
            refine lv_iadd (pc := 45) hx hb dX10_hidden_45 ?_
            refine lv_topi (pc := 46) (fun x1_13 ex1_13 => ?_)
            have h := nm_at ex1_13 h
            refine lv_istore_n (pc := 46) (lv' := [(1, .int x1_13), (2, .int x2_1), (0, .ref a_this)]) hx hb dX10_hidden_46 rfl hl (by decide) rfl (fun ls hl => ?_)
            obtain ⟨x2_14, ex2_14⟩ : ∃ y : Int32, y = x2_1 + 1 := ⟨_, rfl⟩
            have h := nm_at ex2_14 h
            refine lv_iinc (pc := 47) (v := x2_14) (lv' := [(2, .int x2_14), (1, .int x1_13), (0, .ref a_this)]) hx hb dX10_hidden_47 hl (k := 1) rfl (by rw [ex2_14]; rfl) (by decide) rfl (fun ls hl => ?_)
            refine lv_goto (pc := 50) (tgt := 4) hx hb dX10_hidden_50 (by decide) ?_
            exact ih4_3 x2_14 x1_13 ls _ _ (lv_sub hl [0, 1, 2] rfl) hw h
          refine lv_if_eq (pc := 36) (tgt := 43) hx hb dX10_hidden_36 (by decide) (fun hc_15 => ?_) (fun hc_15 => ?_)
          · have h := ift hc_15 h
            refine lv_iconst (pc := 43) (v := 1) hx hb dX10_hidden_43 (by decide) ?_
            exact J44_12 1 ls _ _ (lv_sub hl [0, 1] rfl) hw h
          · have h := iff' hc_15 h
            refine lv_iconst (pc := 39) (v := 0) hx hb dX10_hidden_39 (by decide) ?_
            refine lv_goto (pc := 40) (tgt := 44) hx hb dX10_hidden_40 (by decide) ?_
            exact J44_12 0 ls _ _ (lv_sub hl [0, 1] rfl) hw h
        refine lv_if_eq (pc := 22) (tgt := 29) hx hb dX10_hidden_22 (by decide) (fun hc_16 => ?_) (fun hc_16 => ?_)
        · have h := ift hc_16 h
          refine lv_iconst (pc := 29) (v := 1) hx hb dX10_hidden_29 (by decide) ?_
          exact J30_8 1 ls _ _ (lv_sub hl [0, 2] rfl) hw h
        · have h := iff' hc_16 h
          refine lv_iconst (pc := 25) (v := 0) hx hb dX10_hidden_25 (by decide) ?_
          refine lv_goto (pc := 26) (tgt := 30) hx hb dX10_hidden_26 (by decide) ?_
          exact J30_8 0 ls _ _ (lv_sub hl [0, 2] rfl) hw h
  exact Lih4_3 FU 0 0 ls _ _ (lv_sub hl [0, 1, 2] rfl) hw h
def wX10_beginsSection (cB cI cZ : ClassId) (av : Nat → Nat) (a_this : Nat) (v_thrown : Int32) (v_size : Int32) (v_begins : Int32) (v_entries : Int32) (v_length : Int32) (v_pressed : Int32) (v_streamFrames : Int32) (v_zeros : Int32) (v_level : Int32) (v_sum : Int32) (v_tail : Int32) (v_isPlayed : Int32) (v_found : Int32) (v_strange : Int32) (v_innerFails : Int32) (v_outerFails : Int32) (v_mostMarks : Int32) (v_unsure : Int32) (v_may : Int32) (v_mocks : Int32) (v_sumThen : Int32) (v_beside : Nat → Int32) : va_W := [oX10 a_this av v_thrown v_size v_begins v_entries v_length v_pressed v_streamFrames v_zeros v_level v_sum v_tail v_isPlayed v_found v_strange v_innerFails v_outerFails v_mostMarks v_unsure v_may v_mocks v_sumThen, ((av 37), .inl (cI, 640, .inl v_beside))]
def fX10_beginsSection (v_found : Int32) (v_beside : Nat → Int32) (x1 : Int32) : Option (Int32) := if v_found ≤ (x1 + (1 : Int32)) then some 0 else og (ixb x1 640) (if (v_beside (Int32.toNatClampNeg x1)) = (2049 : Int32) then og (ixb (x1 + (1 : Int32)) 640) (if (v_beside (Int32.toNatClampNeg (x1 + (1 : Int32)))) = (18 : Int32) then some 1 else some 0) else some 0)
set_option maxHeartbeats 4000000 in
set_option maxRecDepth 100000 in
theorem ct_X10_beginsSection (l : Launch) (D : va_G) (cB cI cZ : ClassId) (tw : Nat) (av : Nat → Nat) (a_this : Nat) (v_thrown : Int32) (v_size : Int32) (v_begins : Int32) (v_entries : Int32) (v_length : Int32) (v_pressed : Int32) (v_streamFrames : Int32) (v_zeros : Int32) (v_level : Int32) (v_sum : Int32) (v_tail : Int32) (v_isPlayed : Int32) (v_found : Int32) (v_strange : Int32) (v_innerFails : Int32) (v_outerFails : Int32) (v_mostMarks : Int32) (v_unsure : Int32) (v_may : Int32) (v_mocks : Int32) (v_sumThen : Int32) (v_beside : Nat → Int32) (x1 : Int32) (res : Int32) (h : fX10_beginsSection v_found v_beside x1 = some res) : Ctr l yX10_beginsSection cX10_beginsSection 2 (some .boolean) (rmK 0 0) D (tyL cB cI cZ) tw [.ref a_this, .int x1] (wX10_beginsSection cB cI cZ av a_this v_thrown v_size v_begins v_entries v_length v_pressed v_streamFrames v_zeros v_level v_sum v_tail v_isPlayed v_found v_strange v_innerFails v_outerFails v_mostMarks v_unsure v_may v_mocks v_sumThen v_beside) (fun res : Int32 => some (.int res)) (fun res : Int32 => (wX10_beginsSection cB cI cZ av a_this v_thrown v_size v_begins v_entries v_length v_pressed v_streamFrames v_zeros v_level v_sum v_tail v_isPlayed v_found v_strange v_innerFails v_outerFails v_mostMarks v_unsure v_may v_mocks v_sumThen v_beside)) res := by
  refine ctr_of RX10 (by decide) rfl (Nat.le_of_ble_eq_true rfl) ?_
  intro p e s m below meth c A C hw ls hl
  have hx := C.1
  have hb := C.2.1
  have hl : lv_has ls 2 [(0, .ref a_this), (1, .int x1)] := hl
  unfold fX10_beginsSection at h
  refine lv_iload_n (pc := 0) hx hb dX10_beginsSection_0 rfl (lv_at hl 1 rfl) ?_
  refine lv_iconst (pc := 1) (v := 1) hx hb dX10_beginsSection_1 (by decide) ?_
  refine lv_iadd (pc := 2) hx hb dX10_beginsSection_2 ?_
  refine lv_aload_n (pc := 3) hx hb dX10_beginsSection_3 rfl (lv_at hl 0 rfl) ?_
  refine gf_X10_296 (pc := 4) C hw 0 rfl rfl dX10_beginsSection_4 ?_
  refine lv_icmp_ge (pc := 7) (tgt := 39) hx hb dX10_beginsSection_7 (by decide) (fun hc_1 => ?_) (fun hc_1 => ?_)
  · have h := ift hc_1 h
    refine lv_iconst (pc := 39) (v := 0) hx hb dX10_beginsSection_39 (by decide) ?_
    exact x_zret (pc := 40) (v := 0) C (Option.some.inj h) rfl rfl hw dX10_beginsSection_40
  · have h := iff' hc_1 h
    refine lv_aload_n (pc := 10) hx hb dX10_beginsSection_10 rfl (lv_at hl 0 rfl) ?_
    refine gf_X10_85 (pc := 11) C hw 0 rfl rfl dX10_beginsSection_11 ?_
    refine lv_iload_n (pc := 14) hx hb dX10_beginsSection_14 rfl (lv_at hl 1 rfl) ?_
    obtain ⟨hi_2, h⟩ := og_at h
    refine x_iald (pc := 15) C hw 1 rfl hi_2 dX10_beginsSection_15 ?_
    refine lv_sipush (pc := 16) (v := 2049) hx hb dX10_beginsSection_16 (by decide) ?_
    refine lv_icmp_ne (pc := 19) (tgt := 39) hx hb dX10_beginsSection_19 (by decide) (fun hc_3 => ?_) (fun hc_3 => ?_)
    · have h := iff' hc_3 h
      refine lv_iconst (pc := 39) (v := 0) hx hb dX10_beginsSection_39 (by decide) ?_
      exact x_zret (pc := 40) (v := 0) C (Option.some.inj h) rfl rfl hw dX10_beginsSection_40
    · have h := ift hc_3 h
      refine lv_aload_n (pc := 22) hx hb dX10_beginsSection_22 rfl (lv_at hl 0 rfl) ?_
      refine gf_X10_85 (pc := 23) C hw 0 rfl rfl dX10_beginsSection_23 ?_
      refine lv_iload_n (pc := 26) hx hb dX10_beginsSection_26 rfl (lv_at hl 1 rfl) ?_
      refine lv_iconst (pc := 27) (v := 1) hx hb dX10_beginsSection_27 (by decide) ?_
      refine lv_iadd (pc := 28) hx hb dX10_beginsSection_28 ?_
      obtain ⟨hi_4, h⟩ := og_at h
      refine x_iald (pc := 29) C hw 1 rfl hi_4 dX10_beginsSection_29 ?_
      refine lv_bipush (pc := 30) (v := 18) hx hb dX10_beginsSection_30 (by decide) ?_
      refine lv_icmp_ne (pc := 32) (tgt := 39) hx hb dX10_beginsSection_32 (by decide) (fun hc_5 => ?_) (fun hc_5 => ?_)
      · have h := iff' hc_5 h
        refine lv_iconst (pc := 39) (v := 0) hx hb dX10_beginsSection_39 (by decide) ?_
        exact x_zret (pc := 40) (v := 0) C (Option.some.inj h) rfl rfl hw dX10_beginsSection_40
      · have h := ift hc_5 h
        refine lv_iconst (pc := 35) (v := 1) hx hb dX10_beginsSection_35 (by decide) ?_
        refine lv_goto (pc := 36) (tgt := 40) hx hb dX10_beginsSection_36 (by decide) ?_
        exact x_zret (pc := 40) (v := 1) C (Option.some.inj h) rfl rfl hw dX10_beginsSection_40
def wX10_sections (cB cI cZ : ClassId) (av : Nat → Nat) (a_this : Nat) (v_thrown : Int32) (v_size : Int32) (v_begins : Int32) (v_entries : Int32) (v_length : Int32) (v_pressed : Int32) (v_streamFrames : Int32) (v_zeros : Int32) (v_level : Int32) (v_sum : Int32) (v_tail : Int32) (v_isPlayed : Int32) (v_found : Int32) (v_strange : Int32) (v_innerFails : Int32) (v_outerFails : Int32) (v_mostMarks : Int32) (v_unsure : Int32) (v_may : Int32) (v_mocks : Int32) (v_sumThen : Int32) (v_beside : Nat → Int32) : va_W := [oX10 a_this av v_thrown v_size v_begins v_entries v_length v_pressed v_streamFrames v_zeros v_level v_sum v_tail v_isPlayed v_found v_strange v_innerFails v_outerFails v_mostMarks v_unsure v_may v_mocks v_sumThen, ((av 37), .inl (cI, 640, .inl v_beside))]
def fX10_sections_L4 (v_found : Int32) (v_beside : Nat → Int32) : Nat → Int32 → Int32 → Option (Int32)
  | 0, _, _ => none
  | F4_3 + 1, x2_1, x1_2 => if v_found ≤ x2_1 then some x1_2 else ob1 (fX10_beginsSection v_found v_beside x2_1) fun r_5 => jk (fun (t_7 : Int32) => nm ((x1_2 + t_7) : Int32) fun x1_9 => nm (x2_1 + 1 : Int32) fun x2_10 => fX10_sections_L4 v_found v_beside F4_3 x2_10 x1_9) fun j26_8 => if r_5 = 0 then j26_8 0 else j26_8 1
def fX10_sections (v_found : Int32) (v_beside : Nat → Int32) : Option (Int32) := fX10_sections_L4 v_found v_beside FU 0 0
set_option maxHeartbeats 4000000 in
set_option maxRecDepth 100000 in
theorem ct_X10_sections (l : Launch) (D : va_G) (cB cI cZ : ClassId) (tw : Nat) (av : Nat → Nat) (a_this : Nat) (v_thrown : Int32) (v_size : Int32) (v_begins : Int32) (v_entries : Int32) (v_length : Int32) (v_pressed : Int32) (v_streamFrames : Int32) (v_zeros : Int32) (v_level : Int32) (v_sum : Int32) (v_tail : Int32) (v_isPlayed : Int32) (v_found : Int32) (v_strange : Int32) (v_innerFails : Int32) (v_outerFails : Int32) (v_mostMarks : Int32) (v_unsure : Int32) (v_may : Int32) (v_mocks : Int32) (v_sumThen : Int32) (v_beside : Nat → Int32) (res : Int32) (h : fX10_sections v_found v_beside = some res) : Ctr l yX10_sections cX10_sections 3 (some .int) (rmK 1 21) D (tyL cB cI cZ) tw [.ref a_this] (wX10_sections cB cI cZ av a_this v_thrown v_size v_begins v_entries v_length v_pressed v_streamFrames v_zeros v_level v_sum v_tail v_isPlayed v_found v_strange v_innerFails v_outerFails v_mostMarks v_unsure v_may v_mocks v_sumThen v_beside) (fun res : Int32 => some (.int res)) (fun res : Int32 => (wX10_sections cB cI cZ av a_this v_thrown v_size v_begins v_entries v_length v_pressed v_streamFrames v_zeros v_level v_sum v_tail v_isPlayed v_found v_strange v_innerFails v_outerFails v_mostMarks v_unsure v_may v_mocks v_sumThen v_beside)) res := by
  refine ctr_of RX10 (by decide) rfl (Nat.le_of_ble_eq_true rfl) ?_
  intro p e s m below meth c A C hw ls hl
  have hx := C.1
  have hb := C.2.1
  have hl : lv_has ls 3 [(0, .ref a_this)] := hl
  unfold fX10_sections at h
  refine lv_iconst (pc := 0) (v := 0) hx hb dX10_sections_0 (by decide) ?_
  refine lv_istore_n (pc := 1) (lv' := [(1, .int 0), (0, .ref a_this)]) hx hb dX10_sections_1 rfl hl (by decide) rfl (fun ls hl => ?_)
  refine lv_iconst (pc := 2) (v := 0) hx hb dX10_sections_2 (by decide) ?_
  refine lv_istore_n (pc := 3) (lv' := [(2, .int 0), (1, .int 0), (0, .ref a_this)]) hx hb dX10_sections_3 rfl hl (by decide) rfl (fun ls hl => ?_)
  have Lih4_3 : ∀ (F : Nat) (x2_1 : Int32) (x1_2 : Int32) (ls : Array Slot) (H : Heap) (locs : List Loc), lv_has ls 3 [(2, .int x2_1), (1, .int x1_2), (0, .ref a_this)] → Wd D A s (wX10_sections cB cI cZ av a_this v_thrown v_size v_begins v_entries v_length v_pressed v_streamFrames v_zeros v_level v_sum v_tail v_isPlayed v_found v_strange v_innerFails v_outerFails v_mostMarks v_unsure v_may v_mocks v_sumThen v_beside) H locs → fX10_sections_L4 v_found v_beside F x2_1 x1_2 = some res → W p l e (rmK 1 21) s m ([.ref a_this] : List Value).toArray below meth c H locs 0 0 (MQ below (QG D (tyL cB cI cZ) A (fun res : Int32 => some (.int res)) (fun res : Int32 => (wX10_sections cB cI cZ av a_this v_thrown v_size v_begins v_entries v_length v_pressed v_streamFrames v_zeros v_level v_sum v_tail v_isPlayed v_found v_strange v_innerFails v_outerFails v_mostMarks v_unsure v_may v_mocks v_sumThen v_beside)) res) ([.ref a_this] : List Value).toArray s 0 0 A) (F0 m 4 ls []) := by
    intro F
    induction F with
    | zero => intro x2_1 x1_2 ls H locs hl hw h; rw [fX10_sections_L4.eq_1] at h; cases h
    | succ F4_3 ih4_3 =>
      intro x2_1 x1_2 ls H locs hl hw h
      rw [fX10_sections_L4.eq_2] at h
      refine lv_iload_n (pc := 4) hx hb dX10_sections_4 rfl (lv_at hl 0 rfl) ?_
      refine lv_aload_n (pc := 5) hx hb dX10_sections_5 rfl (lv_at hl 2 rfl) ?_
      refine gf_X10_296 (pc := 6) C hw 0 rfl rfl dX10_sections_6 ?_
      refine lv_icmp_ge (pc := 9) (tgt := 34) hx hb dX10_sections_9 (by decide) (fun hc_4 => ?_) (fun hc_4 => ?_)
      · have h := ift hc_4 h
        refine lv_iload_n (pc := 34) hx hb dX10_sections_34 rfl (lv_at hl 1 rfl) ?_
        exact x_iret (pc := 35) (v := x1_2) C (Option.some.inj h) rfl hw dX10_sections_35
      · have h := iff' hc_4 h
        refine lv_iload_n (pc := 12) hx hb dX10_sections_12 rfl (lv_at hl 1 rfl) ?_
        refine lv_aload_n (pc := 13) hx hb dX10_sections_13 rfl (lv_at hl 2 rfl) ?_
        refine lv_iload_n (pc := 14) hx hb dX10_sections_14 rfl (lv_at hl 0 rfl) ?_
        obtain ⟨r_5, hq_6, h⟩ := ob1_at h
        refine x_callV (pc := 15) (rest := [.int x1_2]) (stk := [.int r_5, .int x1_2]) (wX10_sections cB cI cZ av a_this v_thrown v_size v_begins v_entries v_length v_pressed v_streamFrames v_zeros v_level v_sum v_tail v_isPlayed v_found v_strange v_innerFails v_outerFails v_mostMarks v_unsure v_may v_mocks v_sumThen v_beside) C hw (ct_X10_beginsSection l D cB cI cZ tw av a_this v_thrown v_size v_begins v_entries v_length v_pressed v_streamFrames v_zeros v_level v_sum v_tail v_isPlayed v_found v_strange v_innerFails v_outerFails v_mostMarks v_unsure v_may v_mocks v_sumThen v_beside x2_1 r_5 hq_6) cal_X10_beginsSection tw_1486 (q0 := 0) rfl rfl [0, 1] [] 2 [] rfl rfl rfl rfl rfl rfl rfl rfl rfl rfl rfl (Nat.le_of_ble_eq_true rfl) hl.1 ⟨Nat.le_of_ble_eq_true rfl, Nat.le_of_ble_eq_true rfl⟩ ⟨Nat.zero_le _, Nat.zero_le _⟩ dX10_sections_15 (fun H locs hw => ?_)
        obtain ⟨j26_8, ej26_8, h⟩ := jk_at h
        have J26_8 : ∀ (t_7 : Int32) (ls : Array Slot) (H : Heap) (locs : List Loc), lv_has ls 3 [(2, .int x2_1), (0, .ref a_this)] → Wd D A s (wX10_sections cB cI cZ av a_this v_thrown v_size v_begins v_entries v_length v_pressed v_streamFrames v_zeros v_level v_sum v_tail v_isPlayed v_found v_strange v_innerFails v_outerFails v_mostMarks v_unsure v_may v_mocks v_sumThen v_beside) H locs → j26_8 t_7 = some res → W p l e (rmK 1 21) s m ([.ref a_this] : List Value).toArray below meth c H locs 0 0 (MQ below (QG D (tyL cB cI cZ) A (fun res : Int32 => some (.int res)) (fun res : Int32 => (wX10_sections cB cI cZ av a_this v_thrown v_size v_begins v_entries v_length v_pressed v_streamFrames v_zeros v_level v_sum v_tail v_isPlayed v_found v_strange v_innerFails v_outerFails v_mostMarks v_unsure v_may v_mocks v_sumThen v_beside)) res) ([.ref a_this] : List Value).toArray s 0 0 A) (F0 m 26 ls [.int t_7, .int x1_2]) := by
          intro t_7 ls H locs hl hw h
          have h := k1_at ej26_8 h
          refine lv_iadd (pc := 26) hx hb dX10_sections_26 ?_
          refine lv_topi (pc := 27) (fun x1_9 ex1_9 => ?_)
          have h := nm_at ex1_9 h
          refine lv_istore_n (pc := 27) (lv' := [(1, .int x1_9), (2, .int x2_1), (0, .ref a_this)]) hx hb dX10_sections_27 rfl hl (by decide) rfl (fun ls hl => ?_)
          obtain ⟨x2_10, ex2_10⟩ : ∃ y : Int32, y = x2_1 + 1 := ⟨_, rfl⟩
          have h := nm_at ex2_10 h
          refine lv_iinc (pc := 28) (v := x2_10) (lv' := [(2, .int x2_10), (1, .int x1_9), (0, .ref a_this)]) hx hb dX10_sections_28 hl (k := 1) rfl (by rw [ex2_10]; rfl) (by decide) rfl (fun ls hl => ?_)
          refine lv_goto (pc := 31) (tgt := 4) hx hb dX10_sections_31 (by decide) ?_
          exact ih4_3 x2_10 x1_9 ls _ _ (lv_sub hl [0, 1, 2] rfl) hw h
        refine lv_if_eq (pc := 18) (tgt := 25) hx hb dX10_sections_18 (by decide) (fun hc_11 => ?_) (fun hc_11 => ?_)
        · have h := ift hc_11 h
          refine lv_iconst (pc := 25) (v := 0) hx hb dX10_sections_25 (by decide) ?_
          exact J26_8 0 ls _ _ (lv_sub hl [0, 2] rfl) hw h
        · have h := iff' hc_11 h
          refine lv_iconst (pc := 21) (v := 1) hx hb dX10_sections_21 (by decide) ?_
          refine lv_goto (pc := 22) (tgt := 26) hx hb dX10_sections_22 (by decide) ?_
          exact J26_8 1 ls _ _ (lv_sub hl [0, 2] rfl) hw h
  exact Lih4_3 FU 0 0 ls _ _ (lv_sub hl [0, 1, 2] rfl) hw h
def wX10_told (cB cI cZ : ClassId) (av : Nat → Nat) (a_this : Nat) (v_thrown : Int32) (v_size : Int32) (v_begins : Int32) (v_entries : Int32) (v_length : Int32) (v_pressed : Int32) (v_streamFrames : Int32) (v_zeros : Int32) (v_level : Int32) (v_sum : Int32) (v_tail : Int32) (v_isPlayed : Int32) (v_found : Int32) (v_strange : Int32) (v_innerFails : Int32) (v_outerFails : Int32) (v_mostMarks : Int32) (v_unsure : Int32) (v_may : Int32) (v_mocks : Int32) (v_sumThen : Int32) (v_beside : Nat → Int32) (v_sure : Nat → Int32) : va_W := [oX10 a_this av v_thrown v_size v_begins v_entries v_length v_pressed v_streamFrames v_zeros v_level v_sum v_tail v_isPlayed v_found v_strange v_innerFails v_outerFails v_mostMarks v_unsure v_may v_mocks v_sumThen, ((av 37), .inl (cI, 640, .inl v_beside)), ((av 43), .inl (cZ, 11736, .inl v_sure))]
def fX10_told (v_found : Int32) (v_innerFails : Int32) (v_isPlayed : Int32) (v_mostMarks : Int32) (v_outerFails : Int32) (v_strange : Int32) (v_streamFrames : Int32) (v_thrown : Int32) (v_unsure : Int32) (v_beside : Nat → Int32) (v_sure : Nat → Int32) (x1 : Int32) : Option (Int32 × Int32) := if v_isPlayed = 0 then some ((-1), 0) else if x1 = 0 then some (v_strange, 0) else if x1 = 1 then some (v_innerFails, 0) else if x1 = 2 then some (v_outerFails, 0) else if x1 = 3 then some (v_unsure, 0) else if x1 = 4 then ob1 (fX10_hidden v_streamFrames v_sure) fun r_7 => some (r_7, 0) else if x1 = 5 then some (v_mostMarks, 0) else if x1 = 6 then some (v_found, 0) else if x1 = 7 then ob1 (fX10_sections v_found v_beside) fun r_12 => some (r_12, 0) else some ((-1), 0)
set_option maxHeartbeats 4000000 in
set_option maxRecDepth 100000 in
theorem ct_X10_told (l : Launch) (D : va_G) (cB cI cZ : ClassId) (tw : Nat) (av : Nat → Nat) (a_this : Nat) (v_thrown : Int32) (v_size : Int32) (v_begins : Int32) (v_entries : Int32) (v_length : Int32) (v_pressed : Int32) (v_streamFrames : Int32) (v_zeros : Int32) (v_level : Int32) (v_sum : Int32) (v_tail : Int32) (v_isPlayed : Int32) (v_found : Int32) (v_strange : Int32) (v_innerFails : Int32) (v_outerFails : Int32) (v_mostMarks : Int32) (v_unsure : Int32) (v_may : Int32) (v_mocks : Int32) (v_sumThen : Int32) (v_beside : Nat → Int32) (v_sure : Nat → Int32) (x1 : Int32) (res : Int32 × Int32) (h : fX10_told v_found v_innerFails v_isPlayed v_mostMarks v_outerFails v_strange v_streamFrames v_thrown v_unsure v_beside v_sure x1 = some res) : Ctr l yX10_told cX10_told 2 (some .int) (rmK 3 66) D (tyL cB cI cZ) tw [.ref a_this, .int x1] (wX10_told cB cI cZ av a_this v_thrown v_size v_begins v_entries v_length v_pressed v_streamFrames v_zeros v_level v_sum v_tail v_isPlayed v_found v_strange v_innerFails v_outerFails v_mostMarks v_unsure v_may v_mocks v_sumThen v_beside v_sure) (fun res : Int32 × Int32 => some (.int res.1)) (fun res : Int32 × Int32 => (wX10_told cB cI cZ av a_this (res.2) v_size v_begins v_entries v_length v_pressed v_streamFrames v_zeros v_level v_sum v_tail v_isPlayed v_found v_strange v_innerFails v_outerFails v_mostMarks v_unsure v_may v_mocks v_sumThen v_beside v_sure)) res := by
  refine ctr_of RX10 (by decide) rfl (Nat.le_of_ble_eq_true rfl) ?_
  intro p e s m below meth c A C hw ls hl
  have hx := C.1
  have hb := C.2.1
  have hl : lv_has ls 2 [(0, .ref a_this), (1, .int x1)] := hl
  unfold fX10_told at h
  refine lv_aload_n (pc := 0) hx hb dX10_told_0 rfl (lv_at hl 0 rfl) ?_
  refine lv_iconst (pc := 1) (v := 0) hx hb dX10_told_1 (by decide) ?_
  refine pf_X10_100 (pc := 2) (wX10_told cB cI cZ av a_this 0 v_size v_begins v_entries v_length v_pressed v_streamFrames v_zeros v_level v_sum v_tail v_isPlayed v_found v_strange v_innerFails v_outerFails v_mostMarks v_unsure v_may v_mocks v_sumThen v_beside v_sure) C hw 0 rfl rfl rfl rfl (Nat.le_of_ble_eq_true rfl) dX10_told_2 (fun H locs hw => ?_)
  refine lv_aload_n (pc := 5) hx hb dX10_told_5 rfl (lv_at hl 0 rfl) ?_
  refine gf_X10_250 (pc := 6) C hw 0 rfl rfl dX10_told_6 ?_
  refine lv_if_ne (pc := 9) (tgt := 14) hx hb dX10_told_9 (by decide) (fun hc_1 => ?_) (fun hc_1 => ?_)
  · have h := iff' hc_1 h
    refine lv_iload_n (pc := 14) hx hb dX10_told_14 rfl (lv_at hl 1 rfl) ?_
    by_cases hc_2 : x1 = 0
    · have h := ift hc_2 h
      refine lv_tableIn (pc := 15) (tgt := 60) (off := 45) hx hb dX10_told_15 (by rw [hc_2]; decide) (by rw [hc_2]; decide) (by rw [hc_2]; rfl) (by decide) ?_
      refine lv_aload_n (pc := 60) hx hb dX10_told_60 rfl (lv_at hl 0 rfl) ?_
      refine gf_X10_321 (pc := 61) C hw 0 rfl rfl dX10_told_61 ?_
      exact x_iret (pc := 64) (v := (v_strange, 0)) C (Option.some.inj h) rfl hw dX10_told_64
    have h := iff' hc_2 h
    by_cases hc_3 : x1 = 1
    · have h := ift hc_3 h
      refine lv_tableIn (pc := 15) (tgt := 65) (off := 50) hx hb dX10_told_15 (by rw [hc_3]; decide) (by rw [hc_3]; decide) (by rw [hc_3]; rfl) (by decide) ?_
      refine lv_aload_n (pc := 65) hx hb dX10_told_65 rfl (lv_at hl 0 rfl) ?_
      refine gf_X10_305 (pc := 66) C hw 0 rfl rfl dX10_told_66 ?_
      exact x_iret (pc := 69) (v := (v_innerFails, 0)) C (Option.some.inj h) rfl hw dX10_told_69
    have h := iff' hc_3 h
    by_cases hc_4 : x1 = 2
    · have h := ift hc_4 h
      refine lv_tableIn (pc := 15) (tgt := 70) (off := 55) hx hb dX10_told_15 (by rw [hc_4]; decide) (by rw [hc_4]; decide) (by rw [hc_4]; rfl) (by decide) ?_
      refine lv_aload_n (pc := 70) hx hb dX10_told_70 rfl (lv_at hl 0 rfl) ?_
      refine gf_X10_311 (pc := 71) C hw 0 rfl rfl dX10_told_71 ?_
      exact x_iret (pc := 74) (v := (v_outerFails, 0)) C (Option.some.inj h) rfl hw dX10_told_74
    have h := iff' hc_4 h
    by_cases hc_5 : x1 = 3
    · have h := ift hc_5 h
      refine lv_tableIn (pc := 15) (tgt := 75) (off := 60) hx hb dX10_told_15 (by rw [hc_5]; decide) (by rw [hc_5]; decide) (by rw [hc_5]; rfl) (by decide) ?_
      refine lv_aload_n (pc := 75) hx hb dX10_told_75 rfl (lv_at hl 0 rfl) ?_
      refine gf_X10_314 (pc := 76) C hw 0 rfl rfl dX10_told_76 ?_
      exact x_iret (pc := 79) (v := (v_unsure, 0)) C (Option.some.inj h) rfl hw dX10_told_79
    have h := iff' hc_5 h
    by_cases hc_6 : x1 = 4
    · have h := ift hc_6 h
      refine lv_tableIn (pc := 15) (tgt := 80) (off := 65) hx hb dX10_told_15 (by rw [hc_6]; decide) (by rw [hc_6]; decide) (by rw [hc_6]; rfl) (by decide) ?_
      refine lv_aload_n (pc := 80) hx hb dX10_told_80 rfl (lv_at hl 0 rfl) ?_
      obtain ⟨r_7, hq_8, h⟩ := ob1_at h
      refine x_callV (pc := 81) (rest := []) (stk := [.int r_7]) (wX10_told cB cI cZ av a_this 0 v_size v_begins v_entries v_length v_pressed v_streamFrames v_zeros v_level v_sum v_tail v_isPlayed v_found v_strange v_innerFails v_outerFails v_mostMarks v_unsure v_may v_mocks v_sumThen v_beside v_sure) C hw (ct_X10_hidden l D cB cI cZ tw av a_this 0 v_size v_begins v_entries v_length v_pressed v_streamFrames v_zeros v_level v_sum v_tail v_isPlayed v_found v_strange v_innerFails v_outerFails v_mostMarks v_unsure v_may v_mocks v_sumThen v_sure r_7 hq_8) cal_X10_hidden tw_1478 (q0 := 0) rfl rfl [0, 2] [1] 3 [((av 37), .inl (cI, 640, .inl v_beside))] rfl rfl rfl rfl rfl rfl rfl rfl rfl rfl rfl (Nat.le_of_ble_eq_true rfl) hl.1 ⟨Nat.le_of_ble_eq_true rfl, Nat.le_of_ble_eq_true rfl⟩ ⟨Nat.zero_le _, Nat.zero_le _⟩ dX10_told_81 (fun H locs hw => ?_)
      exact x_iret (pc := 84) (v := (r_7, 0)) C (Option.some.inj h) rfl hw dX10_told_84
    have h := iff' hc_6 h
    by_cases hc_9 : x1 = 5
    · have h := ift hc_9 h
      refine lv_tableIn (pc := 15) (tgt := 85) (off := 70) hx hb dX10_told_15 (by rw [hc_9]; decide) (by rw [hc_9]; decide) (by rw [hc_9]; rfl) (by decide) ?_
      refine lv_aload_n (pc := 85) hx hb dX10_told_85 rfl (lv_at hl 0 rfl) ?_
      refine gf_X10_308 (pc := 86) C hw 0 rfl rfl dX10_told_86 ?_
      exact x_iret (pc := 89) (v := (v_mostMarks, 0)) C (Option.some.inj h) rfl hw dX10_told_89
    have h := iff' hc_9 h
    by_cases hc_10 : x1 = 6
    · have h := ift hc_10 h
      refine lv_tableIn (pc := 15) (tgt := 90) (off := 75) hx hb dX10_told_15 (by rw [hc_10]; decide) (by rw [hc_10]; decide) (by rw [hc_10]; rfl) (by decide) ?_
      refine lv_aload_n (pc := 90) hx hb dX10_told_90 rfl (lv_at hl 0 rfl) ?_
      refine gf_X10_296 (pc := 91) C hw 0 rfl rfl dX10_told_91 ?_
      exact x_iret (pc := 94) (v := (v_found, 0)) C (Option.some.inj h) rfl hw dX10_told_94
    have h := iff' hc_10 h
    by_cases hc_11 : x1 = 7
    · have h := ift hc_11 h
      refine lv_tableIn (pc := 15) (tgt := 95) (off := 80) hx hb dX10_told_15 (by rw [hc_11]; decide) (by rw [hc_11]; decide) (by rw [hc_11]; rfl) (by decide) ?_
      refine lv_aload_n (pc := 95) hx hb dX10_told_95 rfl (lv_at hl 0 rfl) ?_
      obtain ⟨r_12, hq_13, h⟩ := ob1_at h
      refine x_callV (pc := 96) (rest := []) (stk := [.int r_12]) (wX10_told cB cI cZ av a_this 0 v_size v_begins v_entries v_length v_pressed v_streamFrames v_zeros v_level v_sum v_tail v_isPlayed v_found v_strange v_innerFails v_outerFails v_mostMarks v_unsure v_may v_mocks v_sumThen v_beside v_sure) C hw (ct_X10_sections l D cB cI cZ tw av a_this 0 v_size v_begins v_entries v_length v_pressed v_streamFrames v_zeros v_level v_sum v_tail v_isPlayed v_found v_strange v_innerFails v_outerFails v_mostMarks v_unsure v_may v_mocks v_sumThen v_beside r_12 hq_13) cal_X10_sections tw_1482 (q0 := 0) rfl rfl [0, 1] [2] 3 [((av 43), .inl (cZ, 11736, .inl v_sure))] rfl rfl rfl rfl rfl rfl rfl rfl rfl rfl rfl (Nat.le_of_ble_eq_true rfl) hl.1 ⟨Nat.le_of_ble_eq_true rfl, Nat.le_of_ble_eq_true rfl⟩ ⟨Nat.zero_le _, Nat.zero_le _⟩ dX10_told_96 (fun H locs hw => ?_)
      exact x_iret (pc := 99) (v := (r_12, 0)) C (Option.some.inj h) rfl hw dX10_told_99
    have h := iff' hc_11 h
    refine lv_tableOut (pc := 15) (tgt := 100) hx hb dX10_told_15 (by have ahc_2 := ts_ne (n := 0) rfl hc_2; have ahc_3 := ts_ne (n := 1) rfl hc_3; have ahc_4 := ts_ne (n := 2) rfl hc_4; have ahc_5 := ts_ne (n := 3) rfl hc_5; have ahc_6 := ts_ne (n := 4) rfl hc_6; have ahc_9 := ts_ne (n := 5) rfl hc_9; have ahc_10 := ts_ne (n := 6) rfl hc_10; have ahc_11 := ts_ne (n := 7) rfl hc_11; omega) (by decide) ?_
    refine lv_iconst (pc := 100) (v := (-1)) hx hb dX10_told_100 (by decide) ?_
    exact x_iret (pc := 101) (v := ((-1), 0)) C (Option.some.inj h) rfl hw dX10_told_101
  · have h := ift hc_1 h
    refine lv_iconst (pc := 12) (v := (-1)) hx hb dX10_told_12 (by decide) ?_
    exact x_iret (pc := 13) (v := ((-1), 0)) C (Option.some.inj h) rfl hw dX10_told_13
def wX10_sectionAt (cB cI cZ : ClassId) (av : Nat → Nat) (a_this : Nat) (v_thrown : Int32) (v_size : Int32) (v_begins : Int32) (v_entries : Int32) (v_length : Int32) (v_pressed : Int32) (v_streamFrames : Int32) (v_zeros : Int32) (v_level : Int32) (v_sum : Int32) (v_tail : Int32) (v_isPlayed : Int32) (v_found : Int32) (v_strange : Int32) (v_innerFails : Int32) (v_outerFails : Int32) (v_mostMarks : Int32) (v_unsure : Int32) (v_may : Int32) (v_mocks : Int32) (v_sumThen : Int32) (v_beside : Nat → Int32) : va_W := [oX10 a_this av v_thrown v_size v_begins v_entries v_length v_pressed v_streamFrames v_zeros v_level v_sum v_tail v_isPlayed v_found v_strange v_innerFails v_outerFails v_mostMarks v_unsure v_may v_mocks v_sumThen, ((av 37), .inl (cI, 640, .inl v_beside))]
def fX10_sectionAt_L4 (v_found : Int32) (v_beside : Nat → Int32) (x1 : Int32) : Nat → Int32 → Int32 → Option (Int32)
  | 0, _, _ => none
  | F4_3 + 1, x3_1, x2_2 => if v_found ≤ x3_1 then some (-1) else ob1 (fX10_beginsSection v_found v_beside x3_1) fun r_5 => jk (fun (x2_7 : Int32) => nm (x3_1 + 1 : Int32) fun x3_9 => fX10_sectionAt_L4 v_found v_beside x1 F4_3 x3_9 x2_7) fun j33_8 => if r_5 = 0 then j33_8 x2_2 else if x2_2 = x1 then some x3_1 else nm (x2_2 + 1 : Int32) fun x2_12 => j33_8 x2_12
def fX10_sectionAt (v_found : Int32) (v_beside : Nat → Int32) (x1 : Int32) : Option (Int32) := fX10_sectionAt_L4 v_found v_beside x1 FU 0 0
set_option maxHeartbeats 4000000 in
set_option maxRecDepth 100000 in
theorem ct_X10_sectionAt (l : Launch) (D : va_G) (cB cI cZ : ClassId) (tw : Nat) (av : Nat → Nat) (a_this : Nat) (v_thrown : Int32) (v_size : Int32) (v_begins : Int32) (v_entries : Int32) (v_length : Int32) (v_pressed : Int32) (v_streamFrames : Int32) (v_zeros : Int32) (v_level : Int32) (v_sum : Int32) (v_tail : Int32) (v_isPlayed : Int32) (v_found : Int32) (v_strange : Int32) (v_innerFails : Int32) (v_outerFails : Int32) (v_mostMarks : Int32) (v_unsure : Int32) (v_may : Int32) (v_mocks : Int32) (v_sumThen : Int32) (v_beside : Nat → Int32) (x1 : Int32) (res : Int32) (h : fX10_sectionAt v_found v_beside x1 = some res) : Ctr l yX10_sectionAt cX10_sectionAt 4 (some .int) (rmK 1 21) D (tyL cB cI cZ) tw [.ref a_this, .int x1] (wX10_sectionAt cB cI cZ av a_this v_thrown v_size v_begins v_entries v_length v_pressed v_streamFrames v_zeros v_level v_sum v_tail v_isPlayed v_found v_strange v_innerFails v_outerFails v_mostMarks v_unsure v_may v_mocks v_sumThen v_beside) (fun res : Int32 => some (.int res)) (fun res : Int32 => (wX10_sectionAt cB cI cZ av a_this v_thrown v_size v_begins v_entries v_length v_pressed v_streamFrames v_zeros v_level v_sum v_tail v_isPlayed v_found v_strange v_innerFails v_outerFails v_mostMarks v_unsure v_may v_mocks v_sumThen v_beside)) res := by
  refine ctr_of RX10 (by decide) rfl (Nat.le_of_ble_eq_true rfl) ?_
  intro p e s m below meth c A C hw ls hl
  have hx := C.1
  have hb := C.2.1
  have hl : lv_has ls 4 [(0, .ref a_this), (1, .int x1)] := hl
  unfold fX10_sectionAt at h
  refine lv_iconst (pc := 0) (v := 0) hx hb dX10_sectionAt_0 (by decide) ?_
  refine lv_istore_n (pc := 1) (lv' := [(2, .int 0), (0, .ref a_this), (1, .int x1)]) hx hb dX10_sectionAt_1 rfl hl (by decide) rfl (fun ls hl => ?_)
  refine lv_iconst (pc := 2) (v := 0) hx hb dX10_sectionAt_2 (by decide) ?_
  refine lv_istore_n (pc := 3) (lv' := [(3, .int 0), (2, .int 0), (0, .ref a_this), (1, .int x1)]) hx hb dX10_sectionAt_3 rfl hl (by decide) rfl (fun ls hl => ?_)
  have Lih4_3 : ∀ (F : Nat) (x3_1 : Int32) (x2_2 : Int32) (ls : Array Slot) (H : Heap) (locs : List Loc), lv_has ls 4 [(3, .int x3_1), (2, .int x2_2), (0, .ref a_this), (1, .int x1)] → Wd D A s (wX10_sectionAt cB cI cZ av a_this v_thrown v_size v_begins v_entries v_length v_pressed v_streamFrames v_zeros v_level v_sum v_tail v_isPlayed v_found v_strange v_innerFails v_outerFails v_mostMarks v_unsure v_may v_mocks v_sumThen v_beside) H locs → fX10_sectionAt_L4 v_found v_beside x1 F x3_1 x2_2 = some res → W p l e (rmK 1 21) s m ([.ref a_this, .int x1] : List Value).toArray below meth c H locs 0 0 (MQ below (QG D (tyL cB cI cZ) A (fun res : Int32 => some (.int res)) (fun res : Int32 => (wX10_sectionAt cB cI cZ av a_this v_thrown v_size v_begins v_entries v_length v_pressed v_streamFrames v_zeros v_level v_sum v_tail v_isPlayed v_found v_strange v_innerFails v_outerFails v_mostMarks v_unsure v_may v_mocks v_sumThen v_beside)) res) ([.ref a_this, .int x1] : List Value).toArray s 0 0 A) (F0 m 4 ls []) := by
    intro F
    induction F with
    | zero => intro x3_1 x2_2 ls H locs hl hw h; rw [fX10_sectionAt_L4.eq_1] at h; cases h
    | succ F4_3 ih4_3 =>
      intro x3_1 x2_2 ls H locs hl hw h
      rw [fX10_sectionAt_L4.eq_2] at h
      refine lv_iload_n (pc := 4) hx hb dX10_sectionAt_4 rfl (lv_at hl 0 rfl) ?_
      refine lv_aload_n (pc := 5) hx hb dX10_sectionAt_5 rfl (lv_at hl 2 rfl) ?_
      refine gf_X10_296 (pc := 6) C hw 0 rfl rfl dX10_sectionAt_6 ?_
      refine lv_icmp_ge (pc := 9) (tgt := 39) hx hb dX10_sectionAt_9 (by decide) (fun hc_4 => ?_) (fun hc_4 => ?_)
      · have h := ift hc_4 h
        refine lv_iconst (pc := 39) (v := (-1)) hx hb dX10_sectionAt_39 (by decide) ?_
        exact x_iret (pc := 40) (v := (-1)) C (Option.some.inj h) rfl hw dX10_sectionAt_40
      · have h := iff' hc_4 h
        refine lv_aload_n (pc := 12) hx hb dX10_sectionAt_12 rfl (lv_at hl 2 rfl) ?_
        refine lv_iload_n (pc := 13) hx hb dX10_sectionAt_13 rfl (lv_at hl 0 rfl) ?_
        obtain ⟨r_5, hq_6, h⟩ := ob1_at h
        refine x_callV (pc := 14) (rest := []) (stk := [.int r_5]) (wX10_sectionAt cB cI cZ av a_this v_thrown v_size v_begins v_entries v_length v_pressed v_streamFrames v_zeros v_level v_sum v_tail v_isPlayed v_found v_strange v_innerFails v_outerFails v_mostMarks v_unsure v_may v_mocks v_sumThen v_beside) C hw (ct_X10_beginsSection l D cB cI cZ tw av a_this v_thrown v_size v_begins v_entries v_length v_pressed v_streamFrames v_zeros v_level v_sum v_tail v_isPlayed v_found v_strange v_innerFails v_outerFails v_mostMarks v_unsure v_may v_mocks v_sumThen v_beside x3_1 r_5 hq_6) cal_X10_beginsSection tw_1486 (q0 := 0) rfl rfl [0, 1] [] 2 [] rfl rfl rfl rfl rfl rfl rfl rfl rfl rfl rfl (Nat.le_of_ble_eq_true rfl) hl.1 ⟨Nat.le_of_ble_eq_true rfl, Nat.le_of_ble_eq_true rfl⟩ ⟨Nat.zero_le _, Nat.zero_le _⟩ dX10_sectionAt_14 (fun H locs hw => ?_)
        obtain ⟨j33_8, ej33_8, h⟩ := jk_at h
        have J33_8 : ∀ (x2_7 : Int32) (ls : Array Slot) (H : Heap) (locs : List Loc), lv_has ls 4 [(3, .int x3_1), (2, .int x2_7), (0, .ref a_this), (1, .int x1)] → Wd D A s (wX10_sectionAt cB cI cZ av a_this v_thrown v_size v_begins v_entries v_length v_pressed v_streamFrames v_zeros v_level v_sum v_tail v_isPlayed v_found v_strange v_innerFails v_outerFails v_mostMarks v_unsure v_may v_mocks v_sumThen v_beside) H locs → j33_8 x2_7 = some res → W p l e (rmK 1 21) s m ([.ref a_this, .int x1] : List Value).toArray below meth c H locs 0 0 (MQ below (QG D (tyL cB cI cZ) A (fun res : Int32 => some (.int res)) (fun res : Int32 => (wX10_sectionAt cB cI cZ av a_this v_thrown v_size v_begins v_entries v_length v_pressed v_streamFrames v_zeros v_level v_sum v_tail v_isPlayed v_found v_strange v_innerFails v_outerFails v_mostMarks v_unsure v_may v_mocks v_sumThen v_beside)) res) ([.ref a_this, .int x1] : List Value).toArray s 0 0 A) (F0 m 33 ls []) := by
          intro x2_7 ls H locs hl hw h
          have h := k1_at ej33_8 h
          obtain ⟨x3_9, ex3_9⟩ : ∃ y : Int32, y = x3_1 + 1 := ⟨_, rfl⟩
          have h := nm_at ex3_9 h
          refine lv_iinc (pc := 33) (v := x3_9) (lv' := [(3, .int x3_9), (2, .int x2_7), (0, .ref a_this), (1, .int x1)]) hx hb dX10_sectionAt_33 hl (k := 0) rfl (by rw [ex3_9]; rfl) (by decide) rfl (fun ls hl => ?_)
          refine lv_goto (pc := 36) (tgt := 4) hx hb dX10_sectionAt_36 (by decide) ?_
          exact ih4_3 x3_9 x2_7 ls _ _ (lv_sub hl [0, 1, 2, 3] rfl) hw h
        refine lv_if_ne (pc := 17) (tgt := 23) hx hb dX10_sectionAt_17 (by decide) (fun hc_10 => ?_) (fun hc_10 => ?_)
        · have h := iff' hc_10 h
          refine lv_iload_n (pc := 23) hx hb dX10_sectionAt_23 rfl (lv_at hl 1 rfl) ?_
          refine lv_iload_n (pc := 24) hx hb dX10_sectionAt_24 rfl (lv_at hl 3 rfl) ?_
          refine lv_icmp_ne (pc := 25) (tgt := 30) hx hb dX10_sectionAt_25 (by decide) (fun hc_11 => ?_) (fun hc_11 => ?_)
          · have h := iff' hc_11 h
            obtain ⟨x2_12, ex2_12⟩ : ∃ y : Int32, y = x2_2 + 1 := ⟨_, rfl⟩
            have h := nm_at ex2_12 h
            refine lv_iinc (pc := 30) (v := x2_12) (lv' := [(2, .int x2_12), (3, .int x3_1), (0, .ref a_this), (1, .int x1)]) hx hb dX10_sectionAt_30 hl (k := 1) rfl (by rw [ex2_12]; rfl) (by decide) rfl (fun ls hl => ?_)
            exact J33_8 x2_12 ls _ _ (lv_sub hl [1, 0, 2, 3] rfl) hw h
          · have h := ift hc_11 h
            refine lv_iload_n (pc := 28) hx hb dX10_sectionAt_28 rfl (lv_at hl 0 rfl) ?_
            exact x_iret (pc := 29) (v := x3_1) C (Option.some.inj h) rfl hw dX10_sectionAt_29
        · have h := ift hc_10 h
          refine lv_goto (pc := 20) (tgt := 33) hx hb dX10_sectionAt_20 (by decide) ?_
          exact J33_8 x2_2 ls _ _ (lv_sub hl [0, 1, 2, 3] rfl) hw h
  exact Lih4_3 FU 0 0 ls _ _ (lv_sub hl [0, 1, 2, 3] rfl) hw h
def wX10_channelBits (cB cI cZ : ClassId) (av : Nat → Nat) (a_this : Nat) (v_thrown : Int32) (v_size : Int32) (v_begins : Int32) (v_entries : Int32) (v_length : Int32) (v_pressed : Int32) (v_streamFrames : Int32) (v_zeros : Int32) (v_level : Int32) (v_sum : Int32) (v_tail : Int32) (v_isPlayed : Int32) (v_found : Int32) (v_strange : Int32) (v_innerFails : Int32) (v_outerFails : Int32) (v_mostMarks : Int32) (v_unsure : Int32) (v_may : Int32) (v_mocks : Int32) (v_sumThen : Int32) (v_channel : Nat → Int32) : va_W := [oX10 a_this av v_thrown v_size v_begins v_entries v_length v_pressed v_streamFrames v_zeros v_level v_sum v_tail v_isPlayed v_found v_strange v_innerFails v_outerFails v_mostMarks v_unsure v_may v_mocks v_sumThen, ((av 21), .inl (cI, 96, .inl v_channel))]
def fX10_channelBits_L5 (x2 : Int32) (x1 : Int32) (v_channel : Nat → Int32) : Nat → Int32 → Int32 → Option (Int32)
  | 0, _, _ => none
  | F5_3 + 1, x4_1, x3_2 => if x2 ≤ x4_1 then some x3_2 else og (ixb (x1 + x4_1) 96) (nm (((x3_2 <<< ((1 : Int32) &&& 31) : Int32) ||| (v_channel (Int32.toNatClampNeg (x1 + x4_1)))) : Int32) fun x3_6 => nm (x4_1 + 1 : Int32) fun x4_7 => fX10_channelBits_L5 x2 x1 v_channel F5_3 x4_7 x3_6)
def fX10_channelBits (v_channel : Nat → Int32) (x1 : Int32) (x2 : Int32) : Option (Int32) := fX10_channelBits_L5 x2 x1 v_channel FU 0 0
set_option maxHeartbeats 4000000 in
set_option maxRecDepth 100000 in
theorem ct_X10_channelBits (l : Launch) (D : va_G) (cB cI cZ : ClassId) (tw : Nat) (av : Nat → Nat) (a_this : Nat) (v_thrown : Int32) (v_size : Int32) (v_begins : Int32) (v_entries : Int32) (v_length : Int32) (v_pressed : Int32) (v_streamFrames : Int32) (v_zeros : Int32) (v_level : Int32) (v_sum : Int32) (v_tail : Int32) (v_isPlayed : Int32) (v_found : Int32) (v_strange : Int32) (v_innerFails : Int32) (v_outerFails : Int32) (v_mostMarks : Int32) (v_unsure : Int32) (v_may : Int32) (v_mocks : Int32) (v_sumThen : Int32) (v_channel : Nat → Int32) (x1 : Int32) (x2 : Int32) (res : Int32) (h : fX10_channelBits v_channel x1 x2 = some res) : Ctr l yX10_channelBits cX10_channelBits 5 (some .int) (rmK 0 0) D (tyL cB cI cZ) tw [.ref a_this, .int x1, .int x2] (wX10_channelBits cB cI cZ av a_this v_thrown v_size v_begins v_entries v_length v_pressed v_streamFrames v_zeros v_level v_sum v_tail v_isPlayed v_found v_strange v_innerFails v_outerFails v_mostMarks v_unsure v_may v_mocks v_sumThen v_channel) (fun res : Int32 => some (.int res)) (fun res : Int32 => (wX10_channelBits cB cI cZ av a_this v_thrown v_size v_begins v_entries v_length v_pressed v_streamFrames v_zeros v_level v_sum v_tail v_isPlayed v_found v_strange v_innerFails v_outerFails v_mostMarks v_unsure v_may v_mocks v_sumThen v_channel)) res := by
  refine ctr_of RX10 (by decide) rfl (Nat.le_of_ble_eq_true rfl) ?_
  intro p e s m below meth c A C hw ls hl
  have hx := C.1
  have hb := C.2.1
  have hl : lv_has ls 5 [(0, .ref a_this), (1, .int x1), (2, .int x2)] := hl
  unfold fX10_channelBits at h
  refine lv_iconst (pc := 0) (v := 0) hx hb dX10_channelBits_0 (by decide) ?_
  refine lv_istore_n (pc := 1) (lv' := [(3, .int 0), (0, .ref a_this), (1, .int x1), (2, .int x2)]) hx hb dX10_channelBits_1 rfl hl (by decide) rfl (fun ls hl => ?_)
  refine lv_iconst (pc := 2) (v := 0) hx hb dX10_channelBits_2 (by decide) ?_
  refine lv_istore (pc := 3) (lv' := [(4, .int 0), (3, .int 0), (0, .ref a_this), (1, .int x1), (2, .int x2)]) hx hb dX10_channelBits_3 hl (by decide) rfl (fun ls hl => ?_)
  have Lih5_3 : ∀ (F : Nat) (x4_1 : Int32) (x3_2 : Int32) (ls : Array Slot) (H : Heap) (locs : List Loc), lv_has ls 5 [(4, .int x4_1), (3, .int x3_2), (0, .ref a_this), (1, .int x1), (2, .int x2)] → Wd D A s (wX10_channelBits cB cI cZ av a_this v_thrown v_size v_begins v_entries v_length v_pressed v_streamFrames v_zeros v_level v_sum v_tail v_isPlayed v_found v_strange v_innerFails v_outerFails v_mostMarks v_unsure v_may v_mocks v_sumThen v_channel) H locs → fX10_channelBits_L5 x2 x1 v_channel F x4_1 x3_2 = some res → W p l e (rmK 0 0) s m ([.ref a_this, .int x1, .int x2] : List Value).toArray below meth c H locs 0 0 (MQ below (QG D (tyL cB cI cZ) A (fun res : Int32 => some (.int res)) (fun res : Int32 => (wX10_channelBits cB cI cZ av a_this v_thrown v_size v_begins v_entries v_length v_pressed v_streamFrames v_zeros v_level v_sum v_tail v_isPlayed v_found v_strange v_innerFails v_outerFails v_mostMarks v_unsure v_may v_mocks v_sumThen v_channel)) res) ([.ref a_this, .int x1, .int x2] : List Value).toArray s 0 0 A) (F0 m 5 ls []) := by
    intro F
    induction F with
    | zero => intro x4_1 x3_2 ls H locs hl hw h; rw [fX10_channelBits_L5.eq_1] at h; cases h
    | succ F5_3 ih5_3 =>
      intro x4_1 x3_2 ls H locs hl hw h
      rw [fX10_channelBits_L5.eq_2] at h
      refine lv_iload (pc := 5) hx hb dX10_channelBits_5 (lv_at hl 0 rfl) ?_
      refine lv_iload_n (pc := 7) hx hb dX10_channelBits_7 rfl (lv_at hl 4 rfl) ?_
      refine lv_icmp_ge (pc := 8) (tgt := 31) hx hb dX10_channelBits_8 (by decide) (fun hc_4 => ?_) (fun hc_4 => ?_)
      · have h := ift hc_4 h
        refine lv_iload_n (pc := 31) hx hb dX10_channelBits_31 rfl (lv_at hl 1 rfl) ?_
        exact x_iret (pc := 32) (v := x3_2) C (Option.some.inj h) rfl hw dX10_channelBits_32
      · have h := iff' hc_4 h
        refine lv_iload_n (pc := 11) hx hb dX10_channelBits_11 rfl (lv_at hl 1 rfl) ?_
        refine lv_iconst (pc := 12) (v := 1) hx hb dX10_channelBits_12 (by decide) ?_
        refine lv_ishl (pc := 13) hx hb dX10_channelBits_13 ?_
        refine lv_aload_n (pc := 14) hx hb dX10_channelBits_14 rfl (lv_at hl 2 rfl) ?_
        refine gf_X10_42 (pc := 15) C hw 0 rfl rfl dX10_channelBits_15 ?_
        refine lv_iload_n (pc := 18) hx hb dX10_channelBits_18 rfl (lv_at hl 3 rfl) ?_
        refine lv_iload (pc := 19) hx hb dX10_channelBits_19 (lv_at hl 0 rfl) ?_
        refine lv_iadd (pc := 21) hx hb dX10_channelBits_21 ?_
        obtain ⟨hi_5, h⟩ := og_at h
        refine x_iald (pc := 22) C hw 1 rfl hi_5 dX10_channelBits_22 ?_
        refine lv_ior (pc := 23) hx hb dX10_channelBits_23 ?_
        refine lv_topi (pc := 24) (fun x3_6 ex3_6 => ?_)
        have h := nm_at ex3_6 h
        refine lv_istore_n (pc := 24) (lv' := [(3, .int x3_6), (4, .int x4_1), (0, .ref a_this), (1, .int x1), (2, .int x2)]) hx hb dX10_channelBits_24 rfl hl (by decide) rfl (fun ls hl => ?_)
        obtain ⟨x4_7, ex4_7⟩ : ∃ y : Int32, y = x4_1 + 1 := ⟨_, rfl⟩
        have h := nm_at ex4_7 h
        refine lv_iinc (pc := 25) (v := x4_7) (lv' := [(4, .int x4_7), (3, .int x3_6), (0, .ref a_this), (1, .int x1), (2, .int x2)]) hx hb dX10_channelBits_25 hl (k := 1) rfl (by rw [ex4_7]; rfl) (by decide) rfl (fun ls hl => ?_)
        refine lv_goto (pc := 28) (tgt := 5) hx hb dX10_channelBits_28 (by decide) ?_
        exact ih5_3 x4_7 x3_6 ls _ _ (lv_sub hl [0, 1, 2, 3, 4] rfl) hw h
  exact Lih5_3 FU 0 0 ls _ _ (lv_sub hl [0, 1, 2, 3, 4] rfl) hw h
def wX10_twoFigures (cB cI cZ : ClassId) (av : Nat → Nat) (a_this : Nat) (v_thrown : Int32) (v_size : Int32) (v_begins : Int32) (v_entries : Int32) (v_length : Int32) (v_pressed : Int32) (v_streamFrames : Int32) (v_zeros : Int32) (v_level : Int32) (v_sum : Int32) (v_tail : Int32) (v_isPlayed : Int32) (v_found : Int32) (v_strange : Int32) (v_innerFails : Int32) (v_outerFails : Int32) (v_mostMarks : Int32) (v_unsure : Int32) (v_may : Int32) (v_mocks : Int32) (v_sumThen : Int32) (v_channel : Nat → Int32) : va_W := [oX10 a_this av v_thrown v_size v_begins v_entries v_length v_pressed v_streamFrames v_zeros v_level v_sum v_tail v_isPlayed v_found v_strange v_innerFails v_outerFails v_mostMarks v_unsure v_may v_mocks v_sumThen, ((av 21), .inl (cI, 96, .inl v_channel))]
def fX10_twoFigures (v_channel : Nat → Int32) (x1 : Int32) : Option (Int32) := ob1 (fX10_channelBits v_channel x1 4) fun r_1 => ob1 (fX10_channelBits v_channel (x1 + (4 : Int32)) 4) fun r_3 => some (((10 : Int32) * r_1) + r_3)
set_option maxHeartbeats 4000000 in
set_option maxRecDepth 100000 in
theorem ct_X10_twoFigures (l : Launch) (D : va_G) (cB cI cZ : ClassId) (tw : Nat) (av : Nat → Nat) (a_this : Nat) (v_thrown : Int32) (v_size : Int32) (v_begins : Int32) (v_entries : Int32) (v_length : Int32) (v_pressed : Int32) (v_streamFrames : Int32) (v_zeros : Int32) (v_level : Int32) (v_sum : Int32) (v_tail : Int32) (v_isPlayed : Int32) (v_found : Int32) (v_strange : Int32) (v_innerFails : Int32) (v_outerFails : Int32) (v_mostMarks : Int32) (v_unsure : Int32) (v_may : Int32) (v_mocks : Int32) (v_sumThen : Int32) (v_channel : Nat → Int32) (x1 : Int32) (res : Int32) (h : fX10_twoFigures v_channel x1 = some res) : Ctr l yX10_twoFigures cX10_twoFigures 2 (some .int) (rmK 1 24) D (tyL cB cI cZ) tw [.ref a_this, .int x1] (wX10_twoFigures cB cI cZ av a_this v_thrown v_size v_begins v_entries v_length v_pressed v_streamFrames v_zeros v_level v_sum v_tail v_isPlayed v_found v_strange v_innerFails v_outerFails v_mostMarks v_unsure v_may v_mocks v_sumThen v_channel) (fun res : Int32 => some (.int res)) (fun res : Int32 => (wX10_twoFigures cB cI cZ av a_this v_thrown v_size v_begins v_entries v_length v_pressed v_streamFrames v_zeros v_level v_sum v_tail v_isPlayed v_found v_strange v_innerFails v_outerFails v_mostMarks v_unsure v_may v_mocks v_sumThen v_channel)) res := by
  refine ctr_of RX10 (by decide) rfl (Nat.le_of_ble_eq_true rfl) ?_
  intro p e s m below meth c A C hw ls hl
  have hx := C.1
  have hb := C.2.1
  have hl : lv_has ls 2 [(0, .ref a_this), (1, .int x1)] := hl
  unfold fX10_twoFigures at h
  refine lv_bipush (pc := 0) (v := 10) hx hb dX10_twoFigures_0 (by decide) ?_
  refine lv_aload_n (pc := 2) hx hb dX10_twoFigures_2 rfl (lv_at hl 0 rfl) ?_
  refine lv_iload_n (pc := 3) hx hb dX10_twoFigures_3 rfl (lv_at hl 1 rfl) ?_
  refine lv_iconst (pc := 4) (v := 4) hx hb dX10_twoFigures_4 (by decide) ?_
  obtain ⟨r_1, hq_2, h⟩ := ob1_at h
  refine x_callV (pc := 5) (rest := [.int 10]) (stk := [.int r_1, .int 10]) (wX10_twoFigures cB cI cZ av a_this v_thrown v_size v_begins v_entries v_length v_pressed v_streamFrames v_zeros v_level v_sum v_tail v_isPlayed v_found v_strange v_innerFails v_outerFails v_mostMarks v_unsure v_may v_mocks v_sumThen v_channel) C hw (ct_X10_channelBits l D cB cI cZ tw av a_this v_thrown v_size v_begins v_entries v_length v_pressed v_streamFrames v_zeros v_level v_sum v_tail v_isPlayed v_found v_strange v_innerFails v_outerFails v_mostMarks v_unsure v_may v_mocks v_sumThen v_channel x1 4 r_1 hq_2) cal_X10_channelBits tw_1503 (q0 := 0) rfl rfl [0, 1] [] 2 [] rfl rfl rfl rfl rfl rfl rfl rfl rfl rfl rfl (Nat.le_of_ble_eq_true rfl) hl.1 ⟨Nat.le_of_ble_eq_true rfl, Nat.le_of_ble_eq_true rfl⟩ ⟨Nat.zero_le _, Nat.zero_le _⟩ dX10_twoFigures_5 (fun H locs hw => ?_)
  refine lv_imul (pc := 8) hx hb dX10_twoFigures_8 ?_
  refine lv_aload_n (pc := 9) hx hb dX10_twoFigures_9 rfl (lv_at hl 0 rfl) ?_
  refine lv_iload_n (pc := 10) hx hb dX10_twoFigures_10 rfl (lv_at hl 1 rfl) ?_
  refine lv_iconst (pc := 11) (v := 4) hx hb dX10_twoFigures_11 (by decide) ?_
  refine lv_iadd (pc := 12) hx hb dX10_twoFigures_12 ?_
  refine lv_iconst (pc := 13) (v := 4) hx hb dX10_twoFigures_13 (by decide) ?_
  obtain ⟨r_3, hq_4, h⟩ := ob1_at h
  refine x_callV (pc := 14) (rest := [.int ((10 : Int32) * r_1)]) (stk := [.int r_3, .int ((10 : Int32) * r_1)]) (wX10_twoFigures cB cI cZ av a_this v_thrown v_size v_begins v_entries v_length v_pressed v_streamFrames v_zeros v_level v_sum v_tail v_isPlayed v_found v_strange v_innerFails v_outerFails v_mostMarks v_unsure v_may v_mocks v_sumThen v_channel) C hw (ct_X10_channelBits l D cB cI cZ tw av a_this v_thrown v_size v_begins v_entries v_length v_pressed v_streamFrames v_zeros v_level v_sum v_tail v_isPlayed v_found v_strange v_innerFails v_outerFails v_mostMarks v_unsure v_may v_mocks v_sumThen v_channel (x1 + (4 : Int32)) 4 r_3 hq_4) cal_X10_channelBits tw_1503 (q0 := 0) rfl rfl [0, 1] [] 2 [] rfl rfl rfl rfl rfl rfl rfl rfl rfl rfl rfl (Nat.le_of_ble_eq_true rfl) hl.1 ⟨Nat.le_of_ble_eq_true rfl, Nat.le_of_ble_eq_true rfl⟩ ⟨Nat.zero_le _, Nat.zero_le _⟩ dX10_twoFigures_14 (fun H locs hw => ?_)
  refine lv_iadd (pc := 17) hx hb dX10_twoFigures_17 ?_
  exact x_iret (pc := 18) (v := (((10 : Int32) * r_1) + r_3)) C (Option.some.inj h) rfl hw dX10_twoFigures_18
def wX10_clockOf (cB cI cZ : ClassId) (av : Nat → Nat) (a_this : Nat) (v_thrown : Int32) (v_size : Int32) (v_begins : Int32) (v_entries : Int32) (v_length : Int32) (v_pressed : Int32) (v_streamFrames : Int32) (v_zeros : Int32) (v_level : Int32) (v_sum : Int32) (v_tail : Int32) (v_isPlayed : Int32) (v_found : Int32) (v_strange : Int32) (v_innerFails : Int32) (v_outerFails : Int32) (v_mostMarks : Int32) (v_unsure : Int32) (v_may : Int32) (v_mocks : Int32) (v_sumThen : Int32) (v_channel : Nat → Int32) : va_W := [oX10 a_this av v_thrown v_size v_begins v_entries v_length v_pressed v_streamFrames v_zeros v_level v_sum v_tail v_isPlayed v_found v_strange v_innerFails v_outerFails v_mostMarks v_unsure v_may v_mocks v_sumThen, ((av 21), .inl (cI, 96, .inl v_channel))]
def fX10_clockOf (v_channel : Nat → Int32) (x1 : Int32) : Option (Int32) := ob1 (fX10_twoFigures v_channel x1) fun r_1 => ob1 (fX10_twoFigures v_channel (x1 + (8 : Int32))) fun r_3 => ob1 (fX10_twoFigures v_channel (x1 + (16 : Int32))) fun r_5 => some ((((4500 : Int32) * r_1) + ((75 : Int32) * r_3)) + r_5)
set_option maxHeartbeats 4000000 in
set_option maxRecDepth 100000 in
theorem ct_X10_clockOf (l : Launch) (D : va_G) (cB cI cZ : ClassId) (tw : Nat) (av : Nat → Nat) (a_this : Nat) (v_thrown : Int32) (v_size : Int32) (v_begins : Int32) (v_entries : Int32) (v_length : Int32) (v_pressed : Int32) (v_streamFrames : Int32) (v_zeros : Int32) (v_level : Int32) (v_sum : Int32) (v_tail : Int32) (v_isPlayed : Int32) (v_found : Int32) (v_strange : Int32) (v_innerFails : Int32) (v_outerFails : Int32) (v_mostMarks : Int32) (v_unsure : Int32) (v_may : Int32) (v_mocks : Int32) (v_sumThen : Int32) (v_channel : Nat → Int32) (x1 : Int32) (res : Int32) (h : fX10_clockOf v_channel x1 = some res) : Ctr l yX10_clockOf cX10_clockOf 2 (some .int) (rmK 2 45) D (tyL cB cI cZ) tw [.ref a_this, .int x1] (wX10_clockOf cB cI cZ av a_this v_thrown v_size v_begins v_entries v_length v_pressed v_streamFrames v_zeros v_level v_sum v_tail v_isPlayed v_found v_strange v_innerFails v_outerFails v_mostMarks v_unsure v_may v_mocks v_sumThen v_channel) (fun res : Int32 => some (.int res)) (fun res : Int32 => (wX10_clockOf cB cI cZ av a_this v_thrown v_size v_begins v_entries v_length v_pressed v_streamFrames v_zeros v_level v_sum v_tail v_isPlayed v_found v_strange v_innerFails v_outerFails v_mostMarks v_unsure v_may v_mocks v_sumThen v_channel)) res := by
  refine ctr_of RX10 (by decide) rfl (Nat.le_of_ble_eq_true rfl) ?_
  intro p e s m below meth c A C hw ls hl
  have hx := C.1
  have hb := C.2.1
  have hl : lv_has ls 2 [(0, .ref a_this), (1, .int x1)] := hl
  unfold fX10_clockOf at h
  refine lv_sipush (pc := 0) (v := 4500) hx hb dX10_clockOf_0 (by decide) ?_
  refine lv_aload_n (pc := 3) hx hb dX10_clockOf_3 rfl (lv_at hl 0 rfl) ?_
  refine lv_iload_n (pc := 4) hx hb dX10_clockOf_4 rfl (lv_at hl 1 rfl) ?_
  obtain ⟨r_1, hq_2, h⟩ := ob1_at h
  refine x_callV (pc := 5) (rest := [.int 4500]) (stk := [.int r_1, .int 4500]) (wX10_clockOf cB cI cZ av a_this v_thrown v_size v_begins v_entries v_length v_pressed v_streamFrames v_zeros v_level v_sum v_tail v_isPlayed v_found v_strange v_innerFails v_outerFails v_mostMarks v_unsure v_may v_mocks v_sumThen v_channel) C hw (ct_X10_twoFigures l D cB cI cZ tw av a_this v_thrown v_size v_begins v_entries v_length v_pressed v_streamFrames v_zeros v_level v_sum v_tail v_isPlayed v_found v_strange v_innerFails v_outerFails v_mostMarks v_unsure v_may v_mocks v_sumThen v_channel x1 r_1 hq_2) cal_X10_twoFigures tw_1511 (q0 := 0) rfl rfl [0, 1] [] 2 [] rfl rfl rfl rfl rfl rfl rfl rfl rfl rfl rfl (Nat.le_of_ble_eq_true rfl) hl.1 ⟨Nat.le_of_ble_eq_true rfl, Nat.le_of_ble_eq_true rfl⟩ ⟨Nat.zero_le _, Nat.zero_le _⟩ dX10_clockOf_5 (fun H locs hw => ?_)
  refine lv_imul (pc := 8) hx hb dX10_clockOf_8 ?_
  refine lv_bipush (pc := 9) (v := 75) hx hb dX10_clockOf_9 (by decide) ?_
  refine lv_aload_n (pc := 11) hx hb dX10_clockOf_11 rfl (lv_at hl 0 rfl) ?_
  refine lv_iload_n (pc := 12) hx hb dX10_clockOf_12 rfl (lv_at hl 1 rfl) ?_
  refine lv_bipush (pc := 13) (v := 8) hx hb dX10_clockOf_13 (by decide) ?_
  refine lv_iadd (pc := 15) hx hb dX10_clockOf_15 ?_
  obtain ⟨r_3, hq_4, h⟩ := ob1_at h
  refine x_callV (pc := 16) (rest := [.int 75, .int ((4500 : Int32) * r_1)]) (stk := [.int r_3, .int 75, .int ((4500 : Int32) * r_1)]) (wX10_clockOf cB cI cZ av a_this v_thrown v_size v_begins v_entries v_length v_pressed v_streamFrames v_zeros v_level v_sum v_tail v_isPlayed v_found v_strange v_innerFails v_outerFails v_mostMarks v_unsure v_may v_mocks v_sumThen v_channel) C hw (ct_X10_twoFigures l D cB cI cZ tw av a_this v_thrown v_size v_begins v_entries v_length v_pressed v_streamFrames v_zeros v_level v_sum v_tail v_isPlayed v_found v_strange v_innerFails v_outerFails v_mostMarks v_unsure v_may v_mocks v_sumThen v_channel (x1 + (8 : Int32)) r_3 hq_4) cal_X10_twoFigures tw_1511 (q0 := 0) rfl rfl [0, 1] [] 2 [] rfl rfl rfl rfl rfl rfl rfl rfl rfl rfl rfl (Nat.le_of_ble_eq_true rfl) hl.1 ⟨Nat.le_of_ble_eq_true rfl, Nat.le_of_ble_eq_true rfl⟩ ⟨Nat.zero_le _, Nat.zero_le _⟩ dX10_clockOf_16 (fun H locs hw => ?_)
  refine lv_imul (pc := 19) hx hb dX10_clockOf_19 ?_
  refine lv_iadd (pc := 20) hx hb dX10_clockOf_20 ?_
  refine lv_aload_n (pc := 21) hx hb dX10_clockOf_21 rfl (lv_at hl 0 rfl) ?_
  refine lv_iload_n (pc := 22) hx hb dX10_clockOf_22 rfl (lv_at hl 1 rfl) ?_
  refine lv_bipush (pc := 23) (v := 16) hx hb dX10_clockOf_23 (by decide) ?_
  refine lv_iadd (pc := 25) hx hb dX10_clockOf_25 ?_
  obtain ⟨r_5, hq_6, h⟩ := ob1_at h
  refine x_callV (pc := 26) (rest := [.int (((4500 : Int32) * r_1) + ((75 : Int32) * r_3))]) (stk := [.int r_5, .int (((4500 : Int32) * r_1) + ((75 : Int32) * r_3))]) (wX10_clockOf cB cI cZ av a_this v_thrown v_size v_begins v_entries v_length v_pressed v_streamFrames v_zeros v_level v_sum v_tail v_isPlayed v_found v_strange v_innerFails v_outerFails v_mostMarks v_unsure v_may v_mocks v_sumThen v_channel) C hw (ct_X10_twoFigures l D cB cI cZ tw av a_this v_thrown v_size v_begins v_entries v_length v_pressed v_streamFrames v_zeros v_level v_sum v_tail v_isPlayed v_found v_strange v_innerFails v_outerFails v_mostMarks v_unsure v_may v_mocks v_sumThen v_channel (x1 + (16 : Int32)) r_5 hq_6) cal_X10_twoFigures tw_1511 (q0 := 0) rfl rfl [0, 1] [] 2 [] rfl rfl rfl rfl rfl rfl rfl rfl rfl rfl rfl (Nat.le_of_ble_eq_true rfl) hl.1 ⟨Nat.le_of_ble_eq_true rfl, Nat.le_of_ble_eq_true rfl⟩ ⟨Nat.zero_le _, Nat.zero_le _⟩ dX10_clockOf_26 (fun H locs hw => ?_)
  refine lv_iadd (pc := 29) hx hb dX10_clockOf_29 ?_
  exact x_iret (pc := 30) (v := ((((4500 : Int32) * r_1) + ((75 : Int32) * r_3)) + r_5)) C (Option.some.inj h) rfl hw dX10_clockOf_30
def wX10_isClock (cB cI cZ : ClassId) (av : Nat → Nat) (a_this : Nat) (v_thrown : Int32) (v_size : Int32) (v_begins : Int32) (v_entries : Int32) (v_length : Int32) (v_pressed : Int32) (v_streamFrames : Int32) (v_zeros : Int32) (v_level : Int32) (v_sum : Int32) (v_tail : Int32) (v_isPlayed : Int32) (v_found : Int32) (v_strange : Int32) (v_innerFails : Int32) (v_outerFails : Int32) (v_mostMarks : Int32) (v_unsure : Int32) (v_may : Int32) (v_mocks : Int32) (v_sumThen : Int32) (v_channel : Nat → Int32) : va_W := [oX10 a_this av v_thrown v_size v_begins v_entries v_length v_pressed v_streamFrames v_zeros v_level v_sum v_tail v_isPlayed v_found v_strange v_innerFails v_outerFails v_mostMarks v_unsure v_may v_mocks v_sumThen, ((av 21), .inl (cI, 96, .inl v_channel))]
def fX10_isClock (v_channel : Nat → Int32) (x1 : Int32) : Option (Int32) := ob1 (fX10_twoFigures v_channel (x1 + (8 : Int32))) fun r_1 => if (60 : Int32) ≤ r_1 then some 0 else ob1 (fX10_twoFigures v_channel (x1 + (16 : Int32))) fun r_4 => if (75 : Int32) ≤ r_4 then some 0 else some 1
set_option maxHeartbeats 4000000 in
set_option maxRecDepth 100000 in
theorem ct_X10_isClock (l : Launch) (D : va_G) (cB cI cZ : ClassId) (tw : Nat) (av : Nat → Nat) (a_this : Nat) (v_thrown : Int32) (v_size : Int32) (v_begins : Int32) (v_entries : Int32) (v_length : Int32) (v_pressed : Int32) (v_streamFrames : Int32) (v_zeros : Int32) (v_level : Int32) (v_sum : Int32) (v_tail : Int32) (v_isPlayed : Int32) (v_found : Int32) (v_strange : Int32) (v_innerFails : Int32) (v_outerFails : Int32) (v_mostMarks : Int32) (v_unsure : Int32) (v_may : Int32) (v_mocks : Int32) (v_sumThen : Int32) (v_channel : Nat → Int32) (x1 : Int32) (res : Int32) (h : fX10_isClock v_channel x1 = some res) : Ctr l yX10_isClock cX10_isClock 2 (some .boolean) (rmK 2 45) D (tyL cB cI cZ) tw [.ref a_this, .int x1] (wX10_isClock cB cI cZ av a_this v_thrown v_size v_begins v_entries v_length v_pressed v_streamFrames v_zeros v_level v_sum v_tail v_isPlayed v_found v_strange v_innerFails v_outerFails v_mostMarks v_unsure v_may v_mocks v_sumThen v_channel) (fun res : Int32 => some (.int res)) (fun res : Int32 => (wX10_isClock cB cI cZ av a_this v_thrown v_size v_begins v_entries v_length v_pressed v_streamFrames v_zeros v_level v_sum v_tail v_isPlayed v_found v_strange v_innerFails v_outerFails v_mostMarks v_unsure v_may v_mocks v_sumThen v_channel)) res := by
  refine ctr_of RX10 (by decide) rfl (Nat.le_of_ble_eq_true rfl) ?_
  intro p e s m below meth c A C hw ls hl
  have hx := C.1
  have hb := C.2.1
  have hl : lv_has ls 2 [(0, .ref a_this), (1, .int x1)] := hl
  unfold fX10_isClock at h
  refine lv_aload_n (pc := 0) hx hb dX10_isClock_0 rfl (lv_at hl 0 rfl) ?_
  refine lv_iload_n (pc := 1) hx hb dX10_isClock_1 rfl (lv_at hl 1 rfl) ?_
  refine lv_bipush (pc := 2) (v := 8) hx hb dX10_isClock_2 (by decide) ?_
  refine lv_iadd (pc := 4) hx hb dX10_isClock_4 ?_
  obtain ⟨r_1, hq_2, h⟩ := ob1_at h
  refine x_callV (pc := 5) (rest := []) (stk := [.int r_1]) (wX10_isClock cB cI cZ av a_this v_thrown v_size v_begins v_entries v_length v_pressed v_streamFrames v_zeros v_level v_sum v_tail v_isPlayed v_found v_strange v_innerFails v_outerFails v_mostMarks v_unsure v_may v_mocks v_sumThen v_channel) C hw (ct_X10_twoFigures l D cB cI cZ tw av a_this v_thrown v_size v_begins v_entries v_length v_pressed v_streamFrames v_zeros v_level v_sum v_tail v_isPlayed v_found v_strange v_innerFails v_outerFails v_mostMarks v_unsure v_may v_mocks v_sumThen v_channel (x1 + (8 : Int32)) r_1 hq_2) cal_X10_twoFigures tw_1511 (q0 := 0) rfl rfl [0, 1] [] 2 [] rfl rfl rfl rfl rfl rfl rfl rfl rfl rfl rfl (Nat.le_of_ble_eq_true rfl) hl.1 ⟨Nat.le_of_ble_eq_true rfl, Nat.le_of_ble_eq_true rfl⟩ ⟨Nat.zero_le _, Nat.zero_le _⟩ dX10_isClock_5 (fun H locs hw => ?_)
  refine lv_bipush (pc := 8) (v := 60) hx hb dX10_isClock_8 (by decide) ?_
  refine lv_icmp_ge (pc := 10) (tgt := 30) hx hb dX10_isClock_10 (by decide) (fun hc_3 => ?_) (fun hc_3 => ?_)
  · have h := ift hc_3 h
    refine lv_iconst (pc := 30) (v := 0) hx hb dX10_isClock_30 (by decide) ?_
    exact x_zret (pc := 31) (v := 0) C (Option.some.inj h) rfl rfl hw dX10_isClock_31
  · have h := iff' hc_3 h
    refine lv_aload_n (pc := 13) hx hb dX10_isClock_13 rfl (lv_at hl 0 rfl) ?_
    refine lv_iload_n (pc := 14) hx hb dX10_isClock_14 rfl (lv_at hl 1 rfl) ?_
    refine lv_bipush (pc := 15) (v := 16) hx hb dX10_isClock_15 (by decide) ?_
    refine lv_iadd (pc := 17) hx hb dX10_isClock_17 ?_
    obtain ⟨r_4, hq_5, h⟩ := ob1_at h
    refine x_callV (pc := 18) (rest := []) (stk := [.int r_4]) (wX10_isClock cB cI cZ av a_this v_thrown v_size v_begins v_entries v_length v_pressed v_streamFrames v_zeros v_level v_sum v_tail v_isPlayed v_found v_strange v_innerFails v_outerFails v_mostMarks v_unsure v_may v_mocks v_sumThen v_channel) C hw (ct_X10_twoFigures l D cB cI cZ tw av a_this v_thrown v_size v_begins v_entries v_length v_pressed v_streamFrames v_zeros v_level v_sum v_tail v_isPlayed v_found v_strange v_innerFails v_outerFails v_mostMarks v_unsure v_may v_mocks v_sumThen v_channel (x1 + (16 : Int32)) r_4 hq_5) cal_X10_twoFigures tw_1511 (q0 := 0) rfl rfl [0, 1] [] 2 [] rfl rfl rfl rfl rfl rfl rfl rfl rfl rfl rfl (Nat.le_of_ble_eq_true rfl) hl.1 ⟨Nat.le_of_ble_eq_true rfl, Nat.le_of_ble_eq_true rfl⟩ ⟨Nat.zero_le _, Nat.zero_le _⟩ dX10_isClock_18 (fun H locs hw => ?_)
    refine lv_bipush (pc := 21) (v := 75) hx hb dX10_isClock_21 (by decide) ?_
    refine lv_icmp_ge (pc := 23) (tgt := 30) hx hb dX10_isClock_23 (by decide) (fun hc_6 => ?_) (fun hc_6 => ?_)
    · have h := ift hc_6 h
      refine lv_iconst (pc := 30) (v := 0) hx hb dX10_isClock_30 (by decide) ?_
      exact x_zret (pc := 31) (v := 0) C (Option.some.inj h) rfl rfl hw dX10_isClock_31
    · have h := iff' hc_6 h
      refine lv_iconst (pc := 26) (v := 1) hx hb dX10_isClock_26 (by decide) ?_
      refine lv_goto (pc := 27) (tgt := 31) hx hb dX10_isClock_27 (by decide) ?_
      exact x_zret (pc := 31) (v := 1) C (Option.some.inj h) rfl rfl hw dX10_isClock_31
def wX10_isSound (cB cI cZ : ClassId) (av : Nat → Nat) (a_this : Nat) (v_thrown : Int32) (v_size : Int32) (v_begins : Int32) (v_entries : Int32) (v_length : Int32) (v_pressed : Int32) (v_streamFrames : Int32) (v_zeros : Int32) (v_level : Int32) (v_sum : Int32) (v_tail : Int32) (v_isPlayed : Int32) (v_found : Int32) (v_strange : Int32) (v_innerFails : Int32) (v_outerFails : Int32) (v_mostMarks : Int32) (v_unsure : Int32) (v_may : Int32) (v_mocks : Int32) (v_sumThen : Int32) (v_beside : Nat → Int32) (v_bytesOf : Nat → Int32) (v_channel : Nat → Int32) : va_W := [oX10 a_this av v_thrown v_size v_begins v_entries v_length v_pressed v_streamFrames v_zeros v_level v_sum v_tail v_isPlayed v_found v_strange v_innerFails v_outerFails v_mostMarks v_unsure v_may v_mocks v_sumThen, ((av 37), .inl (cI, 640, .inl v_beside)), ((av 2), .inl (cI, 16384, .inl v_bytesOf)), ((av 21), .inl (cI, 96, .inl v_channel))]
def fX10_isSound_L147 (j196_14 : Int32 → Option (Int32 × (Nat → Int32))) (v_channel_4 : Nat → Int32) : Nat → Int32 → Int32 → Option (Int32 × (Nat → Int32))
  | 0, _, _ => none
  | F147_24 + 1, x4_22, x2_23 => if (80 : Int32) ≤ x4_22 then j196_14 x2_23 else jk (fun (t_26 : Int32) => nm (x4_22 + 4 : Int32) fun x4_28 => fX10_isSound_L147 j196_14 v_channel_4 F147_24 x4_28 t_26) fun j189_27 => jk (j189_27 0) fun j188_29 => if x2_23 = 0 then j188_29 else jk (j189_27 1) fun j184_31 => if x4_22 = (48 : Int32) then j184_31 else if x4_22 = (52 : Int32) then j184_31 else ob1 (fX10_channelBits v_channel_4 x4_22 4) fun r_34 => if (10 : Int32) ≤ r_34 then j188_29 else j184_31
def fX10_isSound_L87 (j112_8 : Int32 → Option (Int32 × (Nat → Int32))) (v_channel_4 : Nat → Int32) : Nat → Int32 → Int32 → Option (Int32 × (Nat → Int32))
  | 0, _, _ => none
  | F87_44 + 1, x4_42, x3_43 => if (80 : Int32) ≤ x4_42 then j112_8 x3_43 else og (ixb x4_42 96) (nt1 (fX10_checkStep x3_43 (v_channel_4 (Int32.toNatClampNeg x4_42))) fun r_47 => nm (x4_42 + 1 : Int32) fun x4_49 => fX10_isSound_L87 j112_8 v_channel_4 F87_44 x4_49 r_47)
def fX10_isSound_L19 (j76_5 : Int32 → (Nat → Int32) → Option (Int32 × (Nat → Int32))) (x1 : Int32) (v_beside : Nat → Int32) (v_bytesOf : Nat → Int32) : Nat → Int32 → Int32 → (Nat → Int32) → Option (Int32 × (Nat → Int32))
  | 0, _, _, _ => none
  | F19_53 + 1, x3_50, x2_51, v_channel_52 => if (98 : Int32) ≤ x3_50 then j76_5 x2_51 v_channel_52 else if x2_51 = 0 then j76_5 x2_51 v_channel_52 else og (ixb (x1 + x3_50) 640) (og (ixb (v_beside (Int32.toNatClampNeg (x1 + x3_50))) 16384) (nm ((v_bytesOf (Int32.toNatClampNeg (v_beside (Int32.toNatClampNeg (x1 + x3_50))))) : Int32) fun x4_58 => jk (fun (t_59 : Int32) => og (ixb (x3_50 - (2 : Int32)) 96) (nm (upd v_channel_52 (Int32.toNatClampNeg (x3_50 - (2 : Int32))) ((x4_58 >>> ((6 : Int32) &&& 31) : Int32) &&& (1 : Int32))) fun v_channel_62 => nm (x3_50 + 1 : Int32) fun x3_63 => fX10_isSound_L19 j76_5 x1 v_beside v_bytesOf F19_53 x3_63 t_59 v_channel_62)) fun j54_60 => if x4_58 < 0 then j54_60 0 else j54_60 1))
def fX10_isSound (v_found : Int32) (v_beside : Nat → Int32) (v_bytesOf : Nat → Int32) (v_channel : Nat → Int32) (x1 : Int32) : Option (Int32 × (Nat → Int32)) := jk (fun (t_1 : Int32) => jk (fun (x2_3 : Int32) (v_channel_4 : Nat → Int32) => if x2_3 = 0 then some (0, v_channel_4) else jk (fun (x3_7 : Int32) => ob1 (fX10_channelBits v_channel_4 80 16) fun r_9 => jk (fun (t_11 : Int32) => jk (fun (x2_13 : Int32) => if x2_13 = 0 then some (0, v_channel_4) else ob1 (fX10_isClock v_channel_4 24) fun r_16 => if r_16 = 0 then some (0, v_channel_4) else ob1 (fX10_isClock v_channel_4 56) fun r_19 => if r_19 = 0 then some (0, v_channel_4) else some (1, v_channel_4)) fun j196_14 => fX10_isSound_L147 j196_14 v_channel_4 FU 8 t_11) fun j142_12 => jk (j142_12 0) fun j141_37 => if (r_9 ^^^ (65535 : Int32)) = x3_7 then ob1 (fX10_channelBits v_channel_4 4 4) fun r_39 => if r_39 = (1 : Int32) then j142_12 1 else j141_37 else j141_37) fun j112_8 => fX10_isSound_L87 j112_8 v_channel_4 FU 0 0) fun j76_5 => fX10_isSound_L19 j76_5 x1 v_beside v_bytesOf FU 2 t_1 v_channel) fun j16_2 => if v_found ≤ (x1 + (97 : Int32)) then j16_2 0 else j16_2 1
set_option maxHeartbeats 4000000 in
set_option maxRecDepth 100000 in
theorem ct_X10_isSound (l : Launch) (D : va_G) (cB cI cZ : ClassId) (tw : Nat) (av : Nat → Nat) (a_this : Nat) (v_thrown : Int32) (v_size : Int32) (v_begins : Int32) (v_entries : Int32) (v_length : Int32) (v_pressed : Int32) (v_streamFrames : Int32) (v_zeros : Int32) (v_level : Int32) (v_sum : Int32) (v_tail : Int32) (v_isPlayed : Int32) (v_found : Int32) (v_strange : Int32) (v_innerFails : Int32) (v_outerFails : Int32) (v_mostMarks : Int32) (v_unsure : Int32) (v_may : Int32) (v_mocks : Int32) (v_sumThen : Int32) (v_beside : Nat → Int32) (v_bytesOf : Nat → Int32) (v_channel : Nat → Int32) (x1 : Int32) (res : Int32 × (Nat → Int32)) (h : fX10_isSound v_found v_beside v_bytesOf v_channel x1 = some res) : Ctr l yX10_isSound cX10_isSound 5 (some .boolean) (rmK 3 66) D (tyL cB cI cZ) tw [.ref a_this, .int x1] (wX10_isSound cB cI cZ av a_this v_thrown v_size v_begins v_entries v_length v_pressed v_streamFrames v_zeros v_level v_sum v_tail v_isPlayed v_found v_strange v_innerFails v_outerFails v_mostMarks v_unsure v_may v_mocks v_sumThen v_beside v_bytesOf v_channel) (fun res : Int32 × (Nat → Int32) => some (.int res.1)) (fun res : Int32 × (Nat → Int32) => (wX10_isSound cB cI cZ av a_this v_thrown v_size v_begins v_entries v_length v_pressed v_streamFrames v_zeros v_level v_sum v_tail v_isPlayed v_found v_strange v_innerFails v_outerFails v_mostMarks v_unsure v_may v_mocks v_sumThen v_beside v_bytesOf (res.2))) res := by
  refine ctr_of RX10 (by decide) rfl (Nat.le_of_ble_eq_true rfl) ?_
  intro p e s m below meth c A C hw ls hl
  have hx := C.1
  have hb := C.2.1
  have hl : lv_has ls 5 [(0, .ref a_this), (1, .int x1)] := hl
  unfold fX10_isSound at h
  refine lv_iload_n (pc := 0) hx hb dX10_isSound_0 rfl (lv_at hl 1 rfl) ?_
  refine lv_bipush (pc := 1) (v := 97) hx hb dX10_isSound_1 (by decide) ?_
  refine lv_iadd (pc := 3) hx hb dX10_isSound_3 ?_
  refine lv_aload_n (pc := 4) hx hb dX10_isSound_4 rfl (lv_at hl 0 rfl) ?_
  refine gf_X10_296 (pc := 5) C hw 0 rfl rfl dX10_isSound_5 ?_
  obtain ⟨j16_2, ej16_2, h⟩ := jk_at h
  have J16_2 : ∀ (t_1 : Int32) (ls : Array Slot) (H : Heap) (locs : List Loc), lv_has ls 5 [(0, .ref a_this), (1, .int x1)] → Wd D A s (wX10_isSound cB cI cZ av a_this v_thrown v_size v_begins v_entries v_length v_pressed v_streamFrames v_zeros v_level v_sum v_tail v_isPlayed v_found v_strange v_innerFails v_outerFails v_mostMarks v_unsure v_may v_mocks v_sumThen v_beside v_bytesOf v_channel) H locs → j16_2 t_1 = some res → W p l e (rmK 3 66) s m ([.ref a_this, .int x1] : List Value).toArray below meth c H locs 0 0 (MQ below (QG D (tyL cB cI cZ) A (fun res : Int32 × (Nat → Int32) => some (.int res.1)) (fun res : Int32 × (Nat → Int32) => (wX10_isSound cB cI cZ av a_this v_thrown v_size v_begins v_entries v_length v_pressed v_streamFrames v_zeros v_level v_sum v_tail v_isPlayed v_found v_strange v_innerFails v_outerFails v_mostMarks v_unsure v_may v_mocks v_sumThen v_beside v_bytesOf (res.2))) res) ([.ref a_this, .int x1] : List Value).toArray s 0 0 A) (F0 m 16 ls [.int t_1]) := by
    intro t_1 ls H locs hl hw h
    have h := k1_at ej16_2 h
    refine lv_istore_n (pc := 16) (lv' := [(2, .int t_1), (0, .ref a_this), (1, .int x1)]) hx hb dX10_isSound_16 rfl hl (by decide) rfl (fun ls hl => ?_)
    refine lv_iconst (pc := 17) (v := 2) hx hb dX10_isSound_17 (by decide) ?_
    refine lv_istore_n (pc := 18) (lv' := [(3, .int 2), (2, .int t_1), (0, .ref a_this), (1, .int x1)]) hx hb dX10_isSound_18 rfl hl (by decide) rfl (fun ls hl => ?_)
    obtain ⟨j76_5, ej76_5, h⟩ := jk_at h
    have J76_5 : ∀ (x2_3 : Int32) (v_channel_4 : Nat → Int32) (ls : Array Slot) (H : Heap) (locs : List Loc), lv_has ls 5 [(2, .int x2_3), (0, .ref a_this)] → Wd D A s (wX10_isSound cB cI cZ av a_this v_thrown v_size v_begins v_entries v_length v_pressed v_streamFrames v_zeros v_level v_sum v_tail v_isPlayed v_found v_strange v_innerFails v_outerFails v_mostMarks v_unsure v_may v_mocks v_sumThen v_beside v_bytesOf v_channel_4) H locs → j76_5 x2_3 v_channel_4 = some res → W p l e (rmK 3 66) s m ([.ref a_this, .int x1] : List Value).toArray below meth c H locs 0 0 (MQ below (QG D (tyL cB cI cZ) A (fun res : Int32 × (Nat → Int32) => some (.int res.1)) (fun res : Int32 × (Nat → Int32) => (wX10_isSound cB cI cZ av a_this v_thrown v_size v_begins v_entries v_length v_pressed v_streamFrames v_zeros v_level v_sum v_tail v_isPlayed v_found v_strange v_innerFails v_outerFails v_mostMarks v_unsure v_may v_mocks v_sumThen v_beside v_bytesOf (res.2))) res) ([.ref a_this, .int x1] : List Value).toArray s 0 0 A) (F0 m 76 ls []) := by
      intro x2_3 v_channel_4 ls H locs hl hw h
      have h := k2_at ej76_5 h
      refine lv_iload_n (pc := 76) hx hb dX10_isSound_76 rfl (lv_at hl 0 rfl) ?_
      refine lv_if_ne (pc := 77) (tgt := 82) hx hb dX10_isSound_77 (by decide) (fun hc_6 => ?_) (fun hc_6 => ?_)
      · have h := iff' hc_6 h
        refine lv_iconst (pc := 82) (v := 0) hx hb dX10_isSound_82 (by decide) ?_
        refine lv_istore_n (pc := 83) (lv' := [(3, .int 0), (2, .int x2_3), (0, .ref a_this)]) hx hb dX10_isSound_83 rfl hl (by decide) rfl (fun ls hl => ?_)
        refine lv_iconst (pc := 84) (v := 0) hx hb dX10_isSound_84 (by decide) ?_
        refine lv_istore (pc := 85) (lv' := [(4, .int 0), (3, .int 0), (2, .int x2_3), (0, .ref a_this)]) hx hb dX10_isSound_85 hl (by decide) rfl (fun ls hl => ?_)
        obtain ⟨j112_8, ej112_8, h⟩ := jk_at h
        have J112_8 : ∀ (x3_7 : Int32) (ls : Array Slot) (H : Heap) (locs : List Loc), lv_has ls 5 [(3, .int x3_7), (0, .ref a_this)] → Wd D A s (wX10_isSound cB cI cZ av a_this v_thrown v_size v_begins v_entries v_length v_pressed v_streamFrames v_zeros v_level v_sum v_tail v_isPlayed v_found v_strange v_innerFails v_outerFails v_mostMarks v_unsure v_may v_mocks v_sumThen v_beside v_bytesOf v_channel_4) H locs → j112_8 x3_7 = some res → W p l e (rmK 3 66) s m ([.ref a_this, .int x1] : List Value).toArray below meth c H locs 0 0 (MQ below (QG D (tyL cB cI cZ) A (fun res : Int32 × (Nat → Int32) => some (.int res.1)) (fun res : Int32 × (Nat → Int32) => (wX10_isSound cB cI cZ av a_this v_thrown v_size v_begins v_entries v_length v_pressed v_streamFrames v_zeros v_level v_sum v_tail v_isPlayed v_found v_strange v_innerFails v_outerFails v_mostMarks v_unsure v_may v_mocks v_sumThen v_beside v_bytesOf (res.2))) res) ([.ref a_this, .int x1] : List Value).toArray s 0 0 A) (F0 m 112 ls []) := by
          intro x3_7 ls H locs hl hw h
          have h := k1_at ej112_8 h
          refine lv_aload_n (pc := 112) hx hb dX10_isSound_112 rfl (lv_at hl 1 rfl) ?_
          refine lv_bipush (pc := 113) (v := 80) hx hb dX10_isSound_113 (by decide) ?_
          refine lv_bipush (pc := 115) (v := 16) hx hb dX10_isSound_115 (by decide) ?_
          obtain ⟨r_9, hq_10, h⟩ := ob1_at h
          refine x_callV (pc := 117) (rest := []) (stk := [.int r_9]) (wX10_isSound cB cI cZ av a_this v_thrown v_size v_begins v_entries v_length v_pressed v_streamFrames v_zeros v_level v_sum v_tail v_isPlayed v_found v_strange v_innerFails v_outerFails v_mostMarks v_unsure v_may v_mocks v_sumThen v_beside v_bytesOf v_channel_4) C hw (ct_X10_channelBits l D cB cI cZ tw av a_this v_thrown v_size v_begins v_entries v_length v_pressed v_streamFrames v_zeros v_level v_sum v_tail v_isPlayed v_found v_strange v_innerFails v_outerFails v_mostMarks v_unsure v_may v_mocks v_sumThen v_channel_4 80 16 r_9 hq_10) cal_X10_channelBits tw_1503 (q0 := 0) rfl rfl [0, 3] [1, 2] 4 [((av 37), .inl (cI, 640, .inl v_beside)), ((av 2), .inl (cI, 16384, .inl v_bytesOf))] rfl rfl rfl rfl rfl rfl rfl rfl rfl rfl rfl (Nat.le_of_ble_eq_true rfl) hl.1 ⟨Nat.le_of_ble_eq_true rfl, Nat.le_of_ble_eq_true rfl⟩ ⟨Nat.zero_le _, Nat.zero_le _⟩ dX10_isSound_117 (fun H locs hw => ?_)
          refine lv_ldc (pc := 120) (own := RX10) (v := 65535) hx hb C.2.2.2.1 (C.2.2.2.2.1 _ tw_1313) dX10_isSound_120 ?_
          refine lv_ixor (pc := 122) hx hb dX10_isSound_122 ?_
          refine lv_iload_n (pc := 123) hx hb dX10_isSound_123 rfl (lv_at hl 0 rfl) ?_
          obtain ⟨j142_12, ej142_12, h⟩ := jk_at h
          have J142_12 : ∀ (t_11 : Int32) (ls : Array Slot) (H : Heap) (locs : List Loc), lv_has ls 5 [(0, .ref a_this)] → Wd D A s (wX10_isSound cB cI cZ av a_this v_thrown v_size v_begins v_entries v_length v_pressed v_streamFrames v_zeros v_level v_sum v_tail v_isPlayed v_found v_strange v_innerFails v_outerFails v_mostMarks v_unsure v_may v_mocks v_sumThen v_beside v_bytesOf v_channel_4) H locs → j142_12 t_11 = some res → W p l e (rmK 3 66) s m ([.ref a_this, .int x1] : List Value).toArray below meth c H locs 0 0 (MQ below (QG D (tyL cB cI cZ) A (fun res : Int32 × (Nat → Int32) => some (.int res.1)) (fun res : Int32 × (Nat → Int32) => (wX10_isSound cB cI cZ av a_this v_thrown v_size v_begins v_entries v_length v_pressed v_streamFrames v_zeros v_level v_sum v_tail v_isPlayed v_found v_strange v_innerFails v_outerFails v_mostMarks v_unsure v_may v_mocks v_sumThen v_beside v_bytesOf (res.2))) res) ([.ref a_this, .int x1] : List Value).toArray s 0 0 A) (F0 m 142 ls [.int t_11]) := by
            intro t_11 ls H locs hl hw h
            have h := k1_at ej142_12 h
            refine lv_istore_n (pc := 142) (lv' := [(2, .int t_11), (0, .ref a_this)]) hx hb dX10_isSound_142 rfl hl (by decide) rfl (fun ls hl => ?_)
            refine lv_bipush (pc := 143) (v := 8) hx hb dX10_isSound_143 (by decide) ?_
            refine lv_istore (pc := 145) (lv' := [(4, .int 8), (2, .int t_11), (0, .ref a_this)]) hx hb dX10_isSound_145 hl (by decide) rfl (fun ls hl => ?_)
            obtain ⟨j196_14, ej196_14, h⟩ := jk_at h
            have J196_14 : ∀ (x2_13 : Int32) (ls : Array Slot) (H : Heap) (locs : List Loc), lv_has ls 5 [(2, .int x2_13), (0, .ref a_this)] → Wd D A s (wX10_isSound cB cI cZ av a_this v_thrown v_size v_begins v_entries v_length v_pressed v_streamFrames v_zeros v_level v_sum v_tail v_isPlayed v_found v_strange v_innerFails v_outerFails v_mostMarks v_unsure v_may v_mocks v_sumThen v_beside v_bytesOf v_channel_4) H locs → j196_14 x2_13 = some res → W p l e (rmK 3 66) s m ([.ref a_this, .int x1] : List Value).toArray below meth c H locs 0 0 (MQ below (QG D (tyL cB cI cZ) A (fun res : Int32 × (Nat → Int32) => some (.int res.1)) (fun res : Int32 × (Nat → Int32) => (wX10_isSound cB cI cZ av a_this v_thrown v_size v_begins v_entries v_length v_pressed v_streamFrames v_zeros v_level v_sum v_tail v_isPlayed v_found v_strange v_innerFails v_outerFails v_mostMarks v_unsure v_may v_mocks v_sumThen v_beside v_bytesOf (res.2))) res) ([.ref a_this, .int x1] : List Value).toArray s 0 0 A) (F0 m 196 ls []) := by
              intro x2_13 ls H locs hl hw h
              have h := k1_at ej196_14 h
              refine lv_iload_n (pc := 196) hx hb dX10_isSound_196 rfl (lv_at hl 0 rfl) ?_
              refine lv_if_eq (pc := 197) (tgt := 222) hx hb dX10_isSound_197 (by decide) (fun hc_15 => ?_) (fun hc_15 => ?_)
              · have h := ift hc_15 h
                refine lv_iconst (pc := 222) (v := 0) hx hb dX10_isSound_222 (by decide) ?_
                exact x_zret (pc := 223) (v := (0, v_channel_4)) C (Option.some.inj h) rfl rfl hw dX10_isSound_223
              · have h := iff' hc_15 h
                refine lv_aload_n (pc := 200) hx hb dX10_isSound_200 rfl (lv_at hl 1 rfl) ?_
                refine lv_bipush (pc := 201) (v := 24) hx hb dX10_isSound_201 (by decide) ?_
                obtain ⟨r_16, hq_17, h⟩ := ob1_at h
                refine x_callV (pc := 203) (rest := []) (stk := [.int r_16]) (wX10_isSound cB cI cZ av a_this v_thrown v_size v_begins v_entries v_length v_pressed v_streamFrames v_zeros v_level v_sum v_tail v_isPlayed v_found v_strange v_innerFails v_outerFails v_mostMarks v_unsure v_may v_mocks v_sumThen v_beside v_bytesOf v_channel_4) C hw (ct_X10_isClock l D cB cI cZ tw av a_this v_thrown v_size v_begins v_entries v_length v_pressed v_streamFrames v_zeros v_level v_sum v_tail v_isPlayed v_found v_strange v_innerFails v_outerFails v_mostMarks v_unsure v_may v_mocks v_sumThen v_channel_4 24 r_16 hq_17) cal_X10_isClock tw_1507 (q0 := 0) rfl rfl [0, 3] [1, 2] 4 [((av 37), .inl (cI, 640, .inl v_beside)), ((av 2), .inl (cI, 16384, .inl v_bytesOf))] rfl rfl rfl rfl rfl rfl rfl rfl rfl rfl rfl (Nat.le_of_ble_eq_true rfl) hl.1 ⟨Nat.le_of_ble_eq_true rfl, Nat.le_of_ble_eq_true rfl⟩ ⟨Nat.zero_le _, Nat.zero_le _⟩ dX10_isSound_203 (fun H locs hw => ?_)
                refine lv_if_eq (pc := 206) (tgt := 222) hx hb dX10_isSound_206 (by decide) (fun hc_18 => ?_) (fun hc_18 => ?_)
                · have h := ift hc_18 h
                  refine lv_iconst (pc := 222) (v := 0) hx hb dX10_isSound_222 (by decide) ?_
                  exact x_zret (pc := 223) (v := (0, v_channel_4)) C (Option.some.inj h) rfl rfl hw dX10_isSound_223
                · have h := iff' hc_18 h
                  refine lv_aload_n (pc := 209) hx hb dX10_isSound_209 rfl (lv_at hl 1 rfl) ?_
                  refine lv_bipush (pc := 210) (v := 56) hx hb dX10_isSound_210 (by decide) ?_
                  obtain ⟨r_19, hq_20, h⟩ := ob1_at h
                  refine x_callV (pc := 212) (rest := []) (stk := [.int r_19]) (wX10_isSound cB cI cZ av a_this v_thrown v_size v_begins v_entries v_length v_pressed v_streamFrames v_zeros v_level v_sum v_tail v_isPlayed v_found v_strange v_innerFails v_outerFails v_mostMarks v_unsure v_may v_mocks v_sumThen v_beside v_bytesOf v_channel_4) C hw (ct_X10_isClock l D cB cI cZ tw av a_this v_thrown v_size v_begins v_entries v_length v_pressed v_streamFrames v_zeros v_level v_sum v_tail v_isPlayed v_found v_strange v_innerFails v_outerFails v_mostMarks v_unsure v_may v_mocks v_sumThen v_channel_4 56 r_19 hq_20) cal_X10_isClock tw_1507 (q0 := 0) rfl rfl [0, 3] [1, 2] 4 [((av 37), .inl (cI, 640, .inl v_beside)), ((av 2), .inl (cI, 16384, .inl v_bytesOf))] rfl rfl rfl rfl rfl rfl rfl rfl rfl rfl rfl (Nat.le_of_ble_eq_true rfl) hl.1 ⟨Nat.le_of_ble_eq_true rfl, Nat.le_of_ble_eq_true rfl⟩ ⟨Nat.zero_le _, Nat.zero_le _⟩ dX10_isSound_212 (fun H locs hw => ?_)
                  refine lv_if_eq (pc := 215) (tgt := 222) hx hb dX10_isSound_215 (by decide) (fun hc_21 => ?_) (fun hc_21 => ?_)
                  · have h := ift hc_21 h
                    refine lv_iconst (pc := 222) (v := 0) hx hb dX10_isSound_222 (by decide) ?_
                    exact x_zret (pc := 223) (v := (0, v_channel_4)) C (Option.some.inj h) rfl rfl hw dX10_isSound_223
                  · have h := iff' hc_21 h
                    refine lv_iconst (pc := 218) (v := 1) hx hb dX10_isSound_218 (by decide) ?_
                    refine lv_goto (pc := 219) (tgt := 223) hx hb dX10_isSound_219 (by decide) ?_
                    exact x_zret (pc := 223) (v := (1, v_channel_4)) C (Option.some.inj h) rfl rfl hw dX10_isSound_223
            have Lih147_24 : ∀ (F : Nat) (x4_22 : Int32) (x2_23 : Int32) (ls : Array Slot) (H : Heap) (locs : List Loc), lv_has ls 5 [(4, .int x4_22), (2, .int x2_23), (0, .ref a_this)] → Wd D A s (wX10_isSound cB cI cZ av a_this v_thrown v_size v_begins v_entries v_length v_pressed v_streamFrames v_zeros v_level v_sum v_tail v_isPlayed v_found v_strange v_innerFails v_outerFails v_mostMarks v_unsure v_may v_mocks v_sumThen v_beside v_bytesOf v_channel_4) H locs → fX10_isSound_L147 j196_14 v_channel_4 F x4_22 x2_23 = some res → W p l e (rmK 3 66) s m ([.ref a_this, .int x1] : List Value).toArray below meth c H locs 0 0 (MQ below (QG D (tyL cB cI cZ) A (fun res : Int32 × (Nat → Int32) => some (.int res.1)) (fun res : Int32 × (Nat → Int32) => (wX10_isSound cB cI cZ av a_this v_thrown v_size v_begins v_entries v_length v_pressed v_streamFrames v_zeros v_level v_sum v_tail v_isPlayed v_found v_strange v_innerFails v_outerFails v_mostMarks v_unsure v_may v_mocks v_sumThen v_beside v_bytesOf (res.2))) res) ([.ref a_this, .int x1] : List Value).toArray s 0 0 A) (F0 m 147 ls []) := by
              intro F
              induction F with
              | zero => intro x4_22 x2_23 ls H locs hl hw h; rw [fX10_isSound_L147.eq_1] at h; cases h
              | succ F147_24 ih147_24 =>
                intro x4_22 x2_23 ls H locs hl hw h
                rw [fX10_isSound_L147.eq_2] at h
                refine lv_iload (pc := 147) hx hb dX10_isSound_147 (lv_at hl 0 rfl) ?_
                refine lv_bipush (pc := 149) (v := 80) hx hb dX10_isSound_149 (by decide) ?_
                refine lv_icmp_ge (pc := 151) (tgt := 196) hx hb dX10_isSound_151 (by decide) (fun hc_25 => ?_) (fun hc_25 => ?_)
                · have h := ift hc_25 h
                  exact J196_14 x2_23 ls _ _ (lv_sub hl [1, 2] rfl) hw h
                · have h := iff' hc_25 h
                  refine lv_iload_n (pc := 154) hx hb dX10_isSound_154 rfl (lv_at hl 1 rfl) ?_
                  obtain ⟨j189_27, ej189_27, h⟩ := jk_at h
                  have J189_27 : ∀ (t_26 : Int32) (ls : Array Slot) (H : Heap) (locs : List Loc), lv_has ls 5 [(4, .int x4_22), (0, .ref a_this)] → Wd D A s (wX10_isSound cB cI cZ av a_this v_thrown v_size v_begins v_entries v_length v_pressed v_streamFrames v_zeros v_level v_sum v_tail v_isPlayed v_found v_strange v_innerFails v_outerFails v_mostMarks v_unsure v_may v_mocks v_sumThen v_beside v_bytesOf v_channel_4) H locs → j189_27 t_26 = some res → W p l e (rmK 3 66) s m ([.ref a_this, .int x1] : List Value).toArray below meth c H locs 0 0 (MQ below (QG D (tyL cB cI cZ) A (fun res : Int32 × (Nat → Int32) => some (.int res.1)) (fun res : Int32 × (Nat → Int32) => (wX10_isSound cB cI cZ av a_this v_thrown v_size v_begins v_entries v_length v_pressed v_streamFrames v_zeros v_level v_sum v_tail v_isPlayed v_found v_strange v_innerFails v_outerFails v_mostMarks v_unsure v_may v_mocks v_sumThen v_beside v_bytesOf (res.2))) res) ([.ref a_this, .int x1] : List Value).toArray s 0 0 A) (F0 m 189 ls [.int t_26]) := by
                    intro t_26 ls H locs hl hw h
                    have h := k1_at ej189_27 h
                    refine lv_istore_n (pc := 189) (lv' := [(2, .int t_26), (4, .int x4_22), (0, .ref a_this)]) hx hb dX10_isSound_189 rfl hl (by decide) rfl (fun ls hl => ?_)
                    obtain ⟨x4_28, ex4_28⟩ : ∃ y : Int32, y = x4_22 + 4 := ⟨_, rfl⟩
                    have h := nm_at ex4_28 h
                    refine lv_iinc (pc := 190) (v := x4_28) (lv' := [(4, .int x4_28), (2, .int t_26), (0, .ref a_this)]) hx hb dX10_isSound_190 hl (k := 1) rfl (by rw [ex4_28]; rfl) (by decide) rfl (fun ls hl => ?_)
                    refine lv_goto (pc := 193) (tgt := 147) hx hb dX10_isSound_193 (by decide) ?_
                    exact ih147_24 x4_28 t_26 ls _ _ (lv_sub hl [0, 1, 2] rfl) hw h
                  obtain ⟨j188_29, ej188_29, h⟩ := jk_at h
                  have J188_29 : ∀  (ls : Array Slot) (H : Heap) (locs : List Loc), lv_has ls 5 [(4, .int x4_22), (0, .ref a_this)] → Wd D A s (wX10_isSound cB cI cZ av a_this v_thrown v_size v_begins v_entries v_length v_pressed v_streamFrames v_zeros v_level v_sum v_tail v_isPlayed v_found v_strange v_innerFails v_outerFails v_mostMarks v_unsure v_may v_mocks v_sumThen v_beside v_bytesOf v_channel_4) H locs → j188_29 = some res → W p l e (rmK 3 66) s m ([.ref a_this, .int x1] : List Value).toArray below meth c H locs 0 0 (MQ below (QG D (tyL cB cI cZ) A (fun res : Int32 × (Nat → Int32) => some (.int res.1)) (fun res : Int32 × (Nat → Int32) => (wX10_isSound cB cI cZ av a_this v_thrown v_size v_begins v_entries v_length v_pressed v_streamFrames v_zeros v_level v_sum v_tail v_isPlayed v_found v_strange v_innerFails v_outerFails v_mostMarks v_unsure v_may v_mocks v_sumThen v_beside v_bytesOf (res.2))) res) ([.ref a_this, .int x1] : List Value).toArray s 0 0 A) (F0 m 188 ls []) := by
                    intro  ls H locs hl hw h
                    have h := k0_at ej188_29 h
                    refine lv_iconst (pc := 188) (v := 0) hx hb dX10_isSound_188 (by decide) ?_
                    exact J189_27 0 ls _ _ (lv_sub hl [0, 1] rfl) hw h
                  refine lv_if_eq (pc := 155) (tgt := 188) hx hb dX10_isSound_155 (by decide) (fun hc_30 => ?_) (fun hc_30 => ?_)
                  · have h := ift hc_30 h
                    exact J188_29  ls _ _ (lv_sub hl [0, 2] rfl) hw h
                  · have h := iff' hc_30 h
                    refine lv_iload (pc := 158) hx hb dX10_isSound_158 (lv_at hl 0 rfl) ?_
                    refine lv_bipush (pc := 160) (v := 48) hx hb dX10_isSound_160 (by decide) ?_
                    obtain ⟨j184_31, ej184_31, h⟩ := jk_at h
                    have J184_31 : ∀  (ls : Array Slot) (H : Heap) (locs : List Loc), lv_has ls 5 [(4, .int x4_22), (0, .ref a_this)] → Wd D A s (wX10_isSound cB cI cZ av a_this v_thrown v_size v_begins v_entries v_length v_pressed v_streamFrames v_zeros v_level v_sum v_tail v_isPlayed v_found v_strange v_innerFails v_outerFails v_mostMarks v_unsure v_may v_mocks v_sumThen v_beside v_bytesOf v_channel_4) H locs → j184_31 = some res → W p l e (rmK 3 66) s m ([.ref a_this, .int x1] : List Value).toArray below meth c H locs 0 0 (MQ below (QG D (tyL cB cI cZ) A (fun res : Int32 × (Nat → Int32) => some (.int res.1)) (fun res : Int32 × (Nat → Int32) => (wX10_isSound cB cI cZ av a_this v_thrown v_size v_begins v_entries v_length v_pressed v_streamFrames v_zeros v_level v_sum v_tail v_isPlayed v_found v_strange v_innerFails v_outerFails v_mostMarks v_unsure v_may v_mocks v_sumThen v_beside v_bytesOf (res.2))) res) ([.ref a_this, .int x1] : List Value).toArray s 0 0 A) (F0 m 184 ls []) := by
                      intro  ls H locs hl hw h
                      have h := k0_at ej184_31 h
                      refine lv_iconst (pc := 184) (v := 1) hx hb dX10_isSound_184 (by decide) ?_
                      refine lv_goto (pc := 185) (tgt := 189) hx hb dX10_isSound_185 (by decide) ?_
                      exact J189_27 1 ls _ _ (lv_sub hl [0, 1] rfl) hw h
                    refine lv_icmp_eq (pc := 162) (tgt := 184) hx hb dX10_isSound_162 (by decide) (fun hc_32 => ?_) (fun hc_32 => ?_)
                    · have h := ift hc_32 h
                      exact J184_31  ls _ _ (lv_sub hl [0, 2] rfl) hw h
                    · have h := iff' hc_32 h
                      refine lv_iload (pc := 165) hx hb dX10_isSound_165 (lv_at hl 0 rfl) ?_
                      refine lv_bipush (pc := 167) (v := 52) hx hb dX10_isSound_167 (by decide) ?_
                      refine lv_icmp_eq (pc := 169) (tgt := 184) hx hb dX10_isSound_169 (by decide) (fun hc_33 => ?_) (fun hc_33 => ?_)
                      · have h := ift hc_33 h
                        exact J184_31  ls _ _ (lv_sub hl [0, 2] rfl) hw h
                      · have h := iff' hc_33 h
                        refine lv_aload_n (pc := 172) hx hb dX10_isSound_172 rfl (lv_at hl 2 rfl) ?_
                        refine lv_iload (pc := 173) hx hb dX10_isSound_173 (lv_at hl 0 rfl) ?_
                        refine lv_iconst (pc := 175) (v := 4) hx hb dX10_isSound_175 (by decide) ?_
                        obtain ⟨r_34, hq_35, h⟩ := ob1_at h
                        refine x_callV (pc := 176) (rest := []) (stk := [.int r_34]) (wX10_isSound cB cI cZ av a_this v_thrown v_size v_begins v_entries v_length v_pressed v_streamFrames v_zeros v_level v_sum v_tail v_isPlayed v_found v_strange v_innerFails v_outerFails v_mostMarks v_unsure v_may v_mocks v_sumThen v_beside v_bytesOf v_channel_4) C hw (ct_X10_channelBits l D cB cI cZ tw av a_this v_thrown v_size v_begins v_entries v_length v_pressed v_streamFrames v_zeros v_level v_sum v_tail v_isPlayed v_found v_strange v_innerFails v_outerFails v_mostMarks v_unsure v_may v_mocks v_sumThen v_channel_4 x4_22 4 r_34 hq_35) cal_X10_channelBits tw_1503 (q0 := 0) rfl rfl [0, 3] [1, 2] 4 [((av 37), .inl (cI, 640, .inl v_beside)), ((av 2), .inl (cI, 16384, .inl v_bytesOf))] rfl rfl rfl rfl rfl rfl rfl rfl rfl rfl rfl (Nat.le_of_ble_eq_true rfl) hl.1 ⟨Nat.le_of_ble_eq_true rfl, Nat.le_of_ble_eq_true rfl⟩ ⟨Nat.zero_le _, Nat.zero_le _⟩ dX10_isSound_176 (fun H locs hw => ?_)
                        refine lv_bipush (pc := 179) (v := 10) hx hb dX10_isSound_179 (by decide) ?_
                        refine lv_icmp_ge (pc := 181) (tgt := 188) hx hb dX10_isSound_181 (by decide) (fun hc_36 => ?_) (fun hc_36 => ?_)
                        · have h := ift hc_36 h
                          exact J188_29  ls _ _ (lv_sub hl [0, 2] rfl) hw h
                        · have h := iff' hc_36 h
                          exact J184_31  ls _ _ (lv_sub hl [0, 2] rfl) hw h
            exact Lih147_24 FU 8 t_11 ls _ _ (lv_sub hl [0, 1, 2] rfl) hw h
          obtain ⟨j141_37, ej141_37, h⟩ := jk_at h
          have J141_37 : ∀  (ls : Array Slot) (H : Heap) (locs : List Loc), lv_has ls 5 [(0, .ref a_this)] → Wd D A s (wX10_isSound cB cI cZ av a_this v_thrown v_size v_begins v_entries v_length v_pressed v_streamFrames v_zeros v_level v_sum v_tail v_isPlayed v_found v_strange v_innerFails v_outerFails v_mostMarks v_unsure v_may v_mocks v_sumThen v_beside v_bytesOf v_channel_4) H locs → j141_37 = some res → W p l e (rmK 3 66) s m ([.ref a_this, .int x1] : List Value).toArray below meth c H locs 0 0 (MQ below (QG D (tyL cB cI cZ) A (fun res : Int32 × (Nat → Int32) => some (.int res.1)) (fun res : Int32 × (Nat → Int32) => (wX10_isSound cB cI cZ av a_this v_thrown v_size v_begins v_entries v_length v_pressed v_streamFrames v_zeros v_level v_sum v_tail v_isPlayed v_found v_strange v_innerFails v_outerFails v_mostMarks v_unsure v_may v_mocks v_sumThen v_beside v_bytesOf (res.2))) res) ([.ref a_this, .int x1] : List Value).toArray s 0 0 A) (F0 m 141 ls []) := by
            intro  ls H locs hl hw h
            have h := k0_at ej141_37 h
            refine lv_iconst (pc := 141) (v := 0) hx hb dX10_isSound_141 (by decide) ?_
            exact J142_12 0 ls _ _ (lv_sub hl [0] rfl) hw h
          refine lv_icmp_ne (pc := 124) (tgt := 141) hx hb dX10_isSound_124 (by decide) (fun hc_38 => ?_) (fun hc_38 => ?_)
          · have h := iff' hc_38 h
            exact J141_37  ls _ _ (lv_sub hl [1] rfl) hw h
          · have h := ift hc_38 h
            refine lv_aload_n (pc := 127) hx hb dX10_isSound_127 rfl (lv_at hl 1 rfl) ?_
            refine lv_iconst (pc := 128) (v := 4) hx hb dX10_isSound_128 (by decide) ?_
            refine lv_iconst (pc := 129) (v := 4) hx hb dX10_isSound_129 (by decide) ?_
            obtain ⟨r_39, hq_40, h⟩ := ob1_at h
            refine x_callV (pc := 130) (rest := []) (stk := [.int r_39]) (wX10_isSound cB cI cZ av a_this v_thrown v_size v_begins v_entries v_length v_pressed v_streamFrames v_zeros v_level v_sum v_tail v_isPlayed v_found v_strange v_innerFails v_outerFails v_mostMarks v_unsure v_may v_mocks v_sumThen v_beside v_bytesOf v_channel_4) C hw (ct_X10_channelBits l D cB cI cZ tw av a_this v_thrown v_size v_begins v_entries v_length v_pressed v_streamFrames v_zeros v_level v_sum v_tail v_isPlayed v_found v_strange v_innerFails v_outerFails v_mostMarks v_unsure v_may v_mocks v_sumThen v_channel_4 4 4 r_39 hq_40) cal_X10_channelBits tw_1503 (q0 := 0) rfl rfl [0, 3] [1, 2] 4 [((av 37), .inl (cI, 640, .inl v_beside)), ((av 2), .inl (cI, 16384, .inl v_bytesOf))] rfl rfl rfl rfl rfl rfl rfl rfl rfl rfl rfl (Nat.le_of_ble_eq_true rfl) hl.1 ⟨Nat.le_of_ble_eq_true rfl, Nat.le_of_ble_eq_true rfl⟩ ⟨Nat.zero_le _, Nat.zero_le _⟩ dX10_isSound_130 (fun H locs hw => ?_)
            refine lv_iconst (pc := 133) (v := 1) hx hb dX10_isSound_133 (by decide) ?_
            refine lv_icmp_ne (pc := 134) (tgt := 141) hx hb dX10_isSound_134 (by decide) (fun hc_41 => ?_) (fun hc_41 => ?_)
            · have h := iff' hc_41 h
              exact J141_37  ls _ _ (lv_sub hl [1] rfl) hw h
            · have h := ift hc_41 h
              refine lv_iconst (pc := 137) (v := 1) hx hb dX10_isSound_137 (by decide) ?_
              refine lv_goto (pc := 138) (tgt := 142) hx hb dX10_isSound_138 (by decide) ?_
              exact J142_12 1 ls _ _ (lv_sub hl [1] rfl) hw h
        have Lih87_44 : ∀ (F : Nat) (x4_42 : Int32) (x3_43 : Int32) (ls : Array Slot) (H : Heap) (locs : List Loc), lv_has ls 5 [(4, .int x4_42), (3, .int x3_43), (0, .ref a_this)] → Wd D A s (wX10_isSound cB cI cZ av a_this v_thrown v_size v_begins v_entries v_length v_pressed v_streamFrames v_zeros v_level v_sum v_tail v_isPlayed v_found v_strange v_innerFails v_outerFails v_mostMarks v_unsure v_may v_mocks v_sumThen v_beside v_bytesOf v_channel_4) H locs → fX10_isSound_L87 j112_8 v_channel_4 F x4_42 x3_43 = some res → W p l e (rmK 3 66) s m ([.ref a_this, .int x1] : List Value).toArray below meth c H locs 0 0 (MQ below (QG D (tyL cB cI cZ) A (fun res : Int32 × (Nat → Int32) => some (.int res.1)) (fun res : Int32 × (Nat → Int32) => (wX10_isSound cB cI cZ av a_this v_thrown v_size v_begins v_entries v_length v_pressed v_streamFrames v_zeros v_level v_sum v_tail v_isPlayed v_found v_strange v_innerFails v_outerFails v_mostMarks v_unsure v_may v_mocks v_sumThen v_beside v_bytesOf (res.2))) res) ([.ref a_this, .int x1] : List Value).toArray s 0 0 A) (F0 m 87 ls []) := by
          intro F
          induction F with
          | zero => intro x4_42 x3_43 ls H locs hl hw h; rw [fX10_isSound_L87.eq_1] at h; cases h
          | succ F87_44 ih87_44 =>
            intro x4_42 x3_43 ls H locs hl hw h
            rw [fX10_isSound_L87.eq_2] at h
            refine lv_iload (pc := 87) hx hb dX10_isSound_87 (lv_at hl 0 rfl) ?_
            refine lv_bipush (pc := 89) (v := 80) hx hb dX10_isSound_89 (by decide) ?_
            refine lv_icmp_ge (pc := 91) (tgt := 112) hx hb dX10_isSound_91 (by decide) (fun hc_45 => ?_) (fun hc_45 => ?_)
            · have h := ift hc_45 h
              exact J112_8 x3_43 ls _ _ (lv_sub hl [1, 2] rfl) hw h
            · have h := iff' hc_45 h
              refine lv_iload_n (pc := 94) hx hb dX10_isSound_94 rfl (lv_at hl 1 rfl) ?_
              refine lv_aload_n (pc := 95) hx hb dX10_isSound_95 rfl (lv_at hl 2 rfl) ?_
              refine gf_X10_42 (pc := 96) C hw 0 rfl rfl dX10_isSound_96 ?_
              refine lv_iload (pc := 99) hx hb dX10_isSound_99 (lv_at hl 0 rfl) ?_
              obtain ⟨hi_46, h⟩ := og_at h
              refine x_iald (pc := 101) C hw 3 rfl hi_46 dX10_isSound_101 ?_
              obtain ⟨r_47, hq_48, h⟩ := nt1_at h
              refine x_callS (pc := 102) (rest := []) (stk := [.int r_47]) (wX10_isSound cB cI cZ av a_this v_thrown v_size v_begins v_entries v_length v_pressed v_streamFrames v_zeros v_level v_sum v_tail v_isPlayed v_found v_strange v_innerFails v_outerFails v_mostMarks v_unsure v_may v_mocks v_sumThen v_beside v_bytesOf v_channel_4) C hw (ct_X10_checkStep l D cB cI cZ tw av x3_43 (v_channel_4 (Int32.toNatClampNeg x4_42)) r_47 hq_48.symm) cal_X10_checkStep tw_1310 [] [0, 1, 2, 3] 4 [oX10 a_this av v_thrown v_size v_begins v_entries v_length v_pressed v_streamFrames v_zeros v_level v_sum v_tail v_isPlayed v_found v_strange v_innerFails v_outerFails v_mostMarks v_unsure v_may v_mocks v_sumThen, ((av 37), .inl (cI, 640, .inl v_beside)), ((av 2), .inl (cI, 16384, .inl v_bytesOf)), ((av 21), .inl (cI, 96, .inl v_channel_4))] rfl rfl rfl rfl rfl rfl rfl rfl rfl rfl rfl (Nat.le_of_ble_eq_true rfl) hl.1 ⟨Nat.le_of_ble_eq_true rfl, Nat.le_of_ble_eq_true rfl⟩ ⟨Nat.zero_le _, Nat.zero_le _⟩ dX10_isSound_102 (fun H locs hw => ?_)
              refine lv_istore_n (pc := 105) (lv' := [(3, .int r_47), (4, .int x4_42), (0, .ref a_this)]) hx hb dX10_isSound_105 rfl hl (by decide) rfl (fun ls hl => ?_)
              obtain ⟨x4_49, ex4_49⟩ : ∃ y : Int32, y = x4_42 + 1 := ⟨_, rfl⟩
              have h := nm_at ex4_49 h
              refine lv_iinc (pc := 106) (v := x4_49) (lv' := [(4, .int x4_49), (3, .int r_47), (0, .ref a_this)]) hx hb dX10_isSound_106 hl (k := 1) rfl (by rw [ex4_49]; rfl) (by decide) rfl (fun ls hl => ?_)
              refine lv_goto (pc := 109) (tgt := 87) hx hb dX10_isSound_109 (by decide) ?_
              exact ih87_44 x4_49 r_47 ls _ _ (lv_sub hl [0, 1, 2] rfl) hw h
        exact Lih87_44 FU 0 0 ls _ _ (lv_sub hl [0, 1, 3] rfl) hw h
      · have h := ift hc_6 h
        refine lv_iconst (pc := 80) (v := 0) hx hb dX10_isSound_80 (by decide) ?_
        exact x_zret (pc := 81) (v := (0, v_channel_4)) C (Option.some.inj h) rfl rfl hw dX10_isSound_81
    have Lih19_53 : ∀ (F : Nat) (x3_50 : Int32) (x2_51 : Int32) (v_channel_52 : Nat → Int32) (ls : Array Slot) (H : Heap) (locs : List Loc), lv_has ls 5 [(3, .int x3_50), (2, .int x2_51), (0, .ref a_this), (1, .int x1)] → Wd D A s (wX10_isSound cB cI cZ av a_this v_thrown v_size v_begins v_entries v_length v_pressed v_streamFrames v_zeros v_level v_sum v_tail v_isPlayed v_found v_strange v_innerFails v_outerFails v_mostMarks v_unsure v_may v_mocks v_sumThen v_beside v_bytesOf v_channel_52) H locs → fX10_isSound_L19 j76_5 x1 v_beside v_bytesOf F x3_50 x2_51 v_channel_52 = some res → W p l e (rmK 3 66) s m ([.ref a_this, .int x1] : List Value).toArray below meth c H locs 0 0 (MQ below (QG D (tyL cB cI cZ) A (fun res : Int32 × (Nat → Int32) => some (.int res.1)) (fun res : Int32 × (Nat → Int32) => (wX10_isSound cB cI cZ av a_this v_thrown v_size v_begins v_entries v_length v_pressed v_streamFrames v_zeros v_level v_sum v_tail v_isPlayed v_found v_strange v_innerFails v_outerFails v_mostMarks v_unsure v_may v_mocks v_sumThen v_beside v_bytesOf (res.2))) res) ([.ref a_this, .int x1] : List Value).toArray s 0 0 A) (F0 m 19 ls []) := by
      intro F
      induction F with
      | zero => intro x3_50 x2_51 v_channel_52 ls H locs hl hw h; rw [fX10_isSound_L19.eq_1] at h; cases h
      | succ F19_53 ih19_53 =>
        intro x3_50 x2_51 v_channel_52 ls H locs hl hw h
        rw [fX10_isSound_L19.eq_2] at h
        refine lv_iload_n (pc := 19) hx hb dX10_isSound_19 rfl (lv_at hl 0 rfl) ?_
        refine lv_bipush (pc := 20) (v := 98) hx hb dX10_isSound_20 (by decide) ?_
        refine lv_icmp_ge (pc := 22) (tgt := 76) hx hb dX10_isSound_22 (by decide) (fun hc_54 => ?_) (fun hc_54 => ?_)
        · have h := ift hc_54 h
          exact J76_5 x2_51 v_channel_52 ls _ _ (lv_sub hl [1, 2] rfl) hw h
        · have h := iff' hc_54 h
          refine lv_iload_n (pc := 25) hx hb dX10_isSound_25 rfl (lv_at hl 1 rfl) ?_
          refine lv_if_eq (pc := 26) (tgt := 76) hx hb dX10_isSound_26 (by decide) (fun hc_55 => ?_) (fun hc_55 => ?_)
          · have h := ift hc_55 h
            exact J76_5 x2_51 v_channel_52 ls _ _ (lv_sub hl [1, 2] rfl) hw h
          · have h := iff' hc_55 h
            refine lv_aload_n (pc := 29) hx hb dX10_isSound_29 rfl (lv_at hl 2 rfl) ?_
            refine gf_X10_13 (pc := 30) C hw 0 rfl rfl dX10_isSound_30 ?_
            refine lv_aload_n (pc := 33) hx hb dX10_isSound_33 rfl (lv_at hl 2 rfl) ?_
            refine gf_X10_85 (pc := 34) C hw 0 rfl rfl dX10_isSound_34 ?_
            refine lv_iload_n (pc := 37) hx hb dX10_isSound_37 rfl (lv_at hl 3 rfl) ?_
            refine lv_iload_n (pc := 38) hx hb dX10_isSound_38 rfl (lv_at hl 0 rfl) ?_
            refine lv_iadd (pc := 39) hx hb dX10_isSound_39 ?_
            obtain ⟨hi_56, h⟩ := og_at h
            refine x_iald (pc := 40) C hw 1 rfl hi_56 dX10_isSound_40 ?_
            obtain ⟨hi_57, h⟩ := og_at h
            refine x_iald (pc := 41) C hw 2 rfl hi_57 dX10_isSound_41 ?_
            refine lv_topi (pc := 42) (fun x4_58 ex4_58 => ?_)
            have h := nm_at ex4_58 h
            refine lv_istore (pc := 42) (lv' := [(4, .int x4_58), (3, .int x3_50), (2, .int x2_51), (0, .ref a_this), (1, .int x1)]) hx hb dX10_isSound_42 hl (by decide) rfl (fun ls hl => ?_)
            refine lv_iload (pc := 44) hx hb dX10_isSound_44 (lv_at hl 0 rfl) ?_
            obtain ⟨j54_60, ej54_60, h⟩ := jk_at h
            have J54_60 : ∀ (t_59 : Int32) (ls : Array Slot) (H : Heap) (locs : List Loc), lv_has ls 5 [(4, .int x4_58), (3, .int x3_50), (0, .ref a_this), (1, .int x1)] → Wd D A s (wX10_isSound cB cI cZ av a_this v_thrown v_size v_begins v_entries v_length v_pressed v_streamFrames v_zeros v_level v_sum v_tail v_isPlayed v_found v_strange v_innerFails v_outerFails v_mostMarks v_unsure v_may v_mocks v_sumThen v_beside v_bytesOf v_channel_52) H locs → j54_60 t_59 = some res → W p l e (rmK 3 66) s m ([.ref a_this, .int x1] : List Value).toArray below meth c H locs 0 0 (MQ below (QG D (tyL cB cI cZ) A (fun res : Int32 × (Nat → Int32) => some (.int res.1)) (fun res : Int32 × (Nat → Int32) => (wX10_isSound cB cI cZ av a_this v_thrown v_size v_begins v_entries v_length v_pressed v_streamFrames v_zeros v_level v_sum v_tail v_isPlayed v_found v_strange v_innerFails v_outerFails v_mostMarks v_unsure v_may v_mocks v_sumThen v_beside v_bytesOf (res.2))) res) ([.ref a_this, .int x1] : List Value).toArray s 0 0 A) (F0 m 54 ls [.int t_59]) := by
              intro t_59 ls H locs hl hw h
              have h := k1_at ej54_60 h
              refine lv_istore_n (pc := 54) (lv' := [(2, .int t_59), (4, .int x4_58), (3, .int x3_50), (0, .ref a_this), (1, .int x1)]) hx hb dX10_isSound_54 rfl hl (by decide) rfl (fun ls hl => ?_)
              refine lv_aload_n (pc := 55) hx hb dX10_isSound_55 rfl (lv_at hl 3 rfl) ?_
              refine gf_X10_42 (pc := 56) C hw 0 rfl rfl dX10_isSound_56 ?_
              refine lv_iload_n (pc := 59) hx hb dX10_isSound_59 rfl (lv_at hl 2 rfl) ?_
              refine lv_iconst (pc := 60) (v := 2) hx hb dX10_isSound_60 (by decide) ?_
              refine lv_isub (pc := 61) hx hb dX10_isSound_61 ?_
              refine lv_iload (pc := 62) hx hb dX10_isSound_62 (lv_at hl 1 rfl) ?_
              refine lv_bipush (pc := 64) (v := 6) hx hb dX10_isSound_64 (by decide) ?_
              refine lv_ishr (pc := 66) hx hb dX10_isSound_66 ?_
              refine lv_iconst (pc := 67) (v := 1) hx hb dX10_isSound_67 (by decide) ?_
              refine lv_iand (pc := 68) hx hb dX10_isSound_68 ?_
              obtain ⟨hi_61, h⟩ := og_at h
              obtain ⟨v_channel_62, ev_channel_62⟩ : ∃ y : Nat → Int32, y = upd v_channel_52 (Int32.toNatClampNeg (x3_50 - (2 : Int32))) ((x4_58 >>> ((6 : Int32) &&& 31) : Int32) &&& (1 : Int32)) := ⟨_, rfl⟩
              have h := nm_at ev_channel_62 h
              refine x_iast (pc := 69) (wX10_isSound cB cI cZ av a_this v_thrown v_size v_begins v_entries v_length v_pressed v_streamFrames v_zeros v_level v_sum v_tail v_isPlayed v_found v_strange v_innerFails v_outerFails v_mostMarks v_unsure v_may v_mocks v_sumThen v_beside v_bytesOf v_channel_62) C hw 3 rfl hi_61 (by rw [ev_channel_62]; rfl) dX10_isSound_69 (fun H locs hw => ?_)
              obtain ⟨x3_63, ex3_63⟩ : ∃ y : Int32, y = x3_50 + 1 := ⟨_, rfl⟩
              have h := nm_at ex3_63 h
              refine lv_iinc (pc := 70) (v := x3_63) (lv' := [(3, .int x3_63), (2, .int t_59), (4, .int x4_58), (0, .ref a_this), (1, .int x1)]) hx hb dX10_isSound_70 hl (k := 2) rfl (by rw [ex3_63]; rfl) (by decide) rfl (fun ls hl => ?_)
              refine lv_goto (pc := 73) (tgt := 19) hx hb dX10_isSound_73 (by decide) ?_
              exact ih19_53 x3_63 t_59 v_channel_62 ls _ _ (lv_sub hl [0, 1, 3, 4] rfl) hw h
            refine lv_if_lt (pc := 46) (tgt := 53) hx hb dX10_isSound_46 (by decide) (fun hc_64 => ?_) (fun hc_64 => ?_)
            · have h := ift hc_64 h
              refine lv_iconst (pc := 53) (v := 0) hx hb dX10_isSound_53 (by decide) ?_
              exact J54_60 0 ls _ _ (lv_sub hl [0, 1, 3, 4] rfl) hw h
            · have h := iff' hc_64 h
              refine lv_iconst (pc := 49) (v := 1) hx hb dX10_isSound_49 (by decide) ?_
              refine lv_goto (pc := 50) (tgt := 54) hx hb dX10_isSound_50 (by decide) ?_
              exact J54_60 1 ls _ _ (lv_sub hl [0, 1, 3, 4] rfl) hw h
    exact Lih19_53 FU 2 t_1 v_channel ls _ _ (lv_sub hl [0, 1, 2, 3] rfl) hw h
  refine lv_icmp_ge (pc := 8) (tgt := 15) hx hb dX10_isSound_8 (by decide) (fun hc_65 => ?_) (fun hc_65 => ?_)
  · have h := ift hc_65 h
    refine lv_iconst (pc := 15) (v := 0) hx hb dX10_isSound_15 (by decide) ?_
    exact J16_2 0 ls _ _ (lv_sub hl [0, 1] rfl) hw h
  · have h := iff' hc_65 h
    refine lv_iconst (pc := 11) (v := 1) hx hb dX10_isSound_11 (by decide) ?_
    refine lv_goto (pc := 12) (tgt := 16) hx hb dX10_isSound_12 (by decide) ?_
    exact J16_2 1 ls _ _ (lv_sub hl [0, 1] rfl) hw h
def wX10_q (cB cI cZ : ClassId) (av : Nat → Nat) (a_this : Nat) (v_thrown : Int32) (v_size : Int32) (v_begins : Int32) (v_entries : Int32) (v_length : Int32) (v_pressed : Int32) (v_streamFrames : Int32) (v_zeros : Int32) (v_level : Int32) (v_sum : Int32) (v_tail : Int32) (v_isPlayed : Int32) (v_found : Int32) (v_strange : Int32) (v_innerFails : Int32) (v_outerFails : Int32) (v_mostMarks : Int32) (v_unsure : Int32) (v_may : Int32) (v_mocks : Int32) (v_sumThen : Int32) (v_beside : Nat → Int32) (v_bytesOf : Nat → Int32) (v_channel : Nat → Int32) : va_W := [oX10 a_this av v_thrown v_size v_begins v_entries v_length v_pressed v_streamFrames v_zeros v_level v_sum v_tail v_isPlayed v_found v_strange v_innerFails v_outerFails v_mostMarks v_unsure v_may v_mocks v_sumThen, ((av 37), .inl (cI, 640, .inl v_beside)), ((av 2), .inl (cI, 16384, .inl v_bytesOf)), ((av 21), .inl (cI, 96, .inl v_channel))]
def fX10_q_L77 (j114_15 : Int32 → Option (Int32 × Int32 × (Nat → Int32))) (r_3 : Int32) (v_beside : Nat → Int32) (v_bytesOf : Nat → Int32) : Nat → Int32 → Int32 → Option (Int32 × Int32 × (Nat → Int32))
  | 0, _, _ => none
  | F77_33 + 1, x6_31, x5_32 => if (98 : Int32) ≤ x6_31 then j114_15 x5_32 else og (ixb (r_3 + x6_31) 640) (og (ixb (v_beside (Int32.toNatClampNeg (r_3 + x6_31))) 16384) (nm ((x5_32 + (((v_bytesOf (Int32.toNatClampNeg (v_beside (Int32.toNatClampNeg (r_3 + x6_31))))) >>> ((7 : Int32) &&& 31) : Int32) &&& (1 : Int32))) : Int32) fun x5_37 => nm (x6_31 + 1 : Int32) fun x6_38 => fX10_q_L77 j114_15 r_3 v_beside v_bytesOf F77_33 x6_38 x5_37))
def fX10_q (v_found : Int32) (v_isPlayed : Int32) (v_thrown : Int32) (v_beside : Nat → Int32) (v_bytesOf : Nat → Int32) (v_channel : Nat → Int32) (x1 : Int32) (x2 : Int32) : Option (Int32 × Int32 × (Nat → Int32)) := if v_isPlayed = 0 then some ((-1), 0, v_channel) else if 0 ≤ x1 then ob1 (fX10_sectionAt v_found v_beside x1) fun r_3 => if r_3 < 0 then some ((-1), 0, v_channel) else nt1 (fX10_in (Int32.toInt64 x2) 0 6) fun r_6 => if r_6 = 0 then some ((-1), 0, v_channel) else ob2 (fX10_isSound v_found v_beside v_bytesOf v_channel r_3) fun r_9 v_channel_10 => if x2 = 0 then if r_9 = 0 then some (0, 0, v_channel_10) else some (1, 0, v_channel_10) else if r_9 = 0 then some ((-1), 0, v_channel_10) else jk (fun (x5_14 : Int32) => if x2 = (1 : Int32) then ob1 (fX10_channelBits v_channel_10 0 4) fun r_29 => some (r_29, 0, v_channel_10) else if x2 = (2 : Int32) then ob1 (fX10_twoFigures v_channel_10 8) fun r_27 => some (r_27, 0, v_channel_10) else if x2 = (3 : Int32) then ob1 (fX10_twoFigures v_channel_10 16) fun r_25 => some (r_25, 0, v_channel_10) else if x2 = (4 : Int32) then ob1 (fX10_clockOf v_channel_10 24) fun r_23 => some (r_23, 0, v_channel_10) else if x2 = (5 : Int32) then ob1 (fX10_clockOf v_channel_10 56) fun r_21 => some (r_21, 0, v_channel_10) else some (x5_14, 0, v_channel_10)) fun j114_15 => fX10_q_L77 j114_15 r_3 v_beside v_bytesOf FU 2 0 else some ((-1), 0, v_channel)
set_option maxHeartbeats 4000000 in
set_option maxRecDepth 100000 in
theorem ct_X10_q (l : Launch) (D : va_G) (cB cI cZ : ClassId) (tw : Nat) (av : Nat → Nat) (a_this : Nat) (v_thrown : Int32) (v_size : Int32) (v_begins : Int32) (v_entries : Int32) (v_length : Int32) (v_pressed : Int32) (v_streamFrames : Int32) (v_zeros : Int32) (v_level : Int32) (v_sum : Int32) (v_tail : Int32) (v_isPlayed : Int32) (v_found : Int32) (v_strange : Int32) (v_innerFails : Int32) (v_outerFails : Int32) (v_mostMarks : Int32) (v_unsure : Int32) (v_may : Int32) (v_mocks : Int32) (v_sumThen : Int32) (v_beside : Nat → Int32) (v_bytesOf : Nat → Int32) (v_channel : Nat → Int32) (x1 : Int32) (x2 : Int32) (res : Int32 × Int32 × (Nat → Int32)) (h : fX10_q v_found v_isPlayed v_thrown v_beside v_bytesOf v_channel x1 x2 = some res) : Ctr l yX10_q cX10_q 7 (some .int) (rmK 4 90) D (tyL cB cI cZ) tw [.ref a_this, .int x1, .int x2] (wX10_q cB cI cZ av a_this v_thrown v_size v_begins v_entries v_length v_pressed v_streamFrames v_zeros v_level v_sum v_tail v_isPlayed v_found v_strange v_innerFails v_outerFails v_mostMarks v_unsure v_may v_mocks v_sumThen v_beside v_bytesOf v_channel) (fun res : Int32 × Int32 × (Nat → Int32) => some (.int res.1)) (fun res : Int32 × Int32 × (Nat → Int32) => (wX10_q cB cI cZ av a_this (res.2.1) v_size v_begins v_entries v_length v_pressed v_streamFrames v_zeros v_level v_sum v_tail v_isPlayed v_found v_strange v_innerFails v_outerFails v_mostMarks v_unsure v_may v_mocks v_sumThen v_beside v_bytesOf (res.2.2))) res := by
  refine ctr_of RX10 (by decide) rfl (Nat.le_of_ble_eq_true rfl) ?_
  intro p e s m below meth c A C hw ls hl
  have hx := C.1
  have hb := C.2.1
  have hl : lv_has ls 7 [(0, .ref a_this), (1, .int x1), (2, .int x2)] := hl
  unfold fX10_q at h
  refine lv_aload_n (pc := 0) hx hb dX10_q_0 rfl (lv_at hl 0 rfl) ?_
  refine lv_iconst (pc := 1) (v := 0) hx hb dX10_q_1 (by decide) ?_
  refine pf_X10_100 (pc := 2) (wX10_q cB cI cZ av a_this 0 v_size v_begins v_entries v_length v_pressed v_streamFrames v_zeros v_level v_sum v_tail v_isPlayed v_found v_strange v_innerFails v_outerFails v_mostMarks v_unsure v_may v_mocks v_sumThen v_beside v_bytesOf v_channel) C hw 0 rfl rfl rfl rfl (Nat.le_of_ble_eq_true rfl) dX10_q_2 (fun H locs hw => ?_)
  refine lv_aload_n (pc := 5) hx hb dX10_q_5 rfl (lv_at hl 0 rfl) ?_
  refine gf_X10_250 (pc := 6) C hw 0 rfl rfl dX10_q_6 ?_
  refine lv_if_eq (pc := 9) (tgt := 16) hx hb dX10_q_9 (by decide) (fun hc_1 => ?_) (fun hc_1 => ?_)
  · have h := ift hc_1 h
    refine lv_iconst (pc := 16) (v := (-1)) hx hb dX10_q_16 (by decide) ?_
    exact x_iret (pc := 17) (v := ((-1), 0, v_channel)) C (Option.some.inj h) rfl hw dX10_q_17
  · have h := iff' hc_1 h
    refine lv_iload_n (pc := 12) hx hb dX10_q_12 rfl (lv_at hl 1 rfl) ?_
    refine lv_if_ge (pc := 13) (tgt := 18) hx hb dX10_q_13 (by decide) (fun hc_2 => ?_) (fun hc_2 => ?_)
    · have h := ift hc_2 h
      refine lv_aload_n (pc := 18) hx hb dX10_q_18 rfl (lv_at hl 0 rfl) ?_
      refine lv_iload_n (pc := 19) hx hb dX10_q_19 rfl (lv_at hl 1 rfl) ?_
      obtain ⟨r_3, hq_4, h⟩ := ob1_at h
      refine x_callV (pc := 20) (rest := []) (stk := [.int r_3]) (wX10_q cB cI cZ av a_this 0 v_size v_begins v_entries v_length v_pressed v_streamFrames v_zeros v_level v_sum v_tail v_isPlayed v_found v_strange v_innerFails v_outerFails v_mostMarks v_unsure v_may v_mocks v_sumThen v_beside v_bytesOf v_channel) C hw (ct_X10_sectionAt l D cB cI cZ tw av a_this 0 v_size v_begins v_entries v_length v_pressed v_streamFrames v_zeros v_level v_sum v_tail v_isPlayed v_found v_strange v_innerFails v_outerFails v_mostMarks v_unsure v_may v_mocks v_sumThen v_beside x1 r_3 hq_4) cal_X10_sectionAt tw_1494 (q0 := 0) rfl rfl [0, 1] [2, 3] 4 [((av 2), .inl (cI, 16384, .inl v_bytesOf)), ((av 21), .inl (cI, 96, .inl v_channel))] rfl rfl rfl rfl rfl rfl rfl rfl rfl rfl rfl (Nat.le_of_ble_eq_true rfl) hl.1 ⟨Nat.le_of_ble_eq_true rfl, Nat.le_of_ble_eq_true rfl⟩ ⟨Nat.zero_le _, Nat.zero_le _⟩ dX10_q_20 (fun H locs hw => ?_)
      refine lv_istore_n (pc := 23) (lv' := [(3, .int r_3), (0, .ref a_this), (1, .int x1), (2, .int x2)]) hx hb dX10_q_23 rfl hl (by decide) rfl (fun ls hl => ?_)
      refine lv_iload_n (pc := 24) hx hb dX10_q_24 rfl (lv_at hl 0 rfl) ?_
      refine lv_if_lt (pc := 25) (tgt := 40) hx hb dX10_q_25 (by decide) (fun hc_5 => ?_) (fun hc_5 => ?_)
      · have h := ift hc_5 h
        refine lv_iconst (pc := 40) (v := (-1)) hx hb dX10_q_40 (by decide) ?_
        exact x_iret (pc := 41) (v := ((-1), 0, v_channel)) C (Option.some.inj h) rfl hw dX10_q_41
      · have h := iff' hc_5 h
        refine lv_iload_n (pc := 28) hx hb dX10_q_28 rfl (lv_at hl 3 rfl) ?_
        refine lv_i2l (pc := 29) hx hb dX10_q_29 rfl ?_
        refine lv_lconst (pc := 30) (v := 0) hx hb dX10_q_30 (by decide) ?_
        refine lv_ldc2 (pc := 31) (own := RX10) (v := 6) hx hb C.2.2.2.1 (C.2.2.2.2.1 _ tw_1498) dX10_q_31 ?_
        obtain ⟨r_6, hq_7, h⟩ := nt1_at h
        refine x_callS (pc := 34) (rest := []) (stk := [.int r_6]) (wX10_q cB cI cZ av a_this 0 v_size v_begins v_entries v_length v_pressed v_streamFrames v_zeros v_level v_sum v_tail v_isPlayed v_found v_strange v_innerFails v_outerFails v_mostMarks v_unsure v_may v_mocks v_sumThen v_beside v_bytesOf v_channel) C hw (ct_X10_in l D cB cI cZ tw av (Int32.toInt64 x2) 0 6 r_6 hq_7.symm) cal_X10_in tw_1176 [] [0, 1, 2, 3] 4 [oX10 a_this av 0 v_size v_begins v_entries v_length v_pressed v_streamFrames v_zeros v_level v_sum v_tail v_isPlayed v_found v_strange v_innerFails v_outerFails v_mostMarks v_unsure v_may v_mocks v_sumThen, ((av 37), .inl (cI, 640, .inl v_beside)), ((av 2), .inl (cI, 16384, .inl v_bytesOf)), ((av 21), .inl (cI, 96, .inl v_channel))] rfl rfl rfl rfl rfl rfl rfl rfl rfl rfl rfl (Nat.le_of_ble_eq_true rfl) hl.1 ⟨Nat.le_of_ble_eq_true rfl, Nat.le_of_ble_eq_true rfl⟩ ⟨Nat.zero_le _, Nat.zero_le _⟩ dX10_q_34 (fun H locs hw => ?_)
        refine lv_if_ne (pc := 37) (tgt := 42) hx hb dX10_q_37 (by decide) (fun hc_8 => ?_) (fun hc_8 => ?_)
        · have h := iff' hc_8 h
          refine lv_aload_n (pc := 42) hx hb dX10_q_42 rfl (lv_at hl 1 rfl) ?_
          refine lv_iload_n (pc := 43) hx hb dX10_q_43 rfl (lv_at hl 0 rfl) ?_
          obtain ⟨r_9, v_channel_10, hq_11, h⟩ := ob2_at h
          refine x_callV (pc := 44) (rest := []) (stk := [.int r_9]) (wX10_q cB cI cZ av a_this 0 v_size v_begins v_entries v_length v_pressed v_streamFrames v_zeros v_level v_sum v_tail v_isPlayed v_found v_strange v_innerFails v_outerFails v_mostMarks v_unsure v_may v_mocks v_sumThen v_beside v_bytesOf v_channel_10) C hw (ct_X10_isSound l D cB cI cZ tw av a_this 0 v_size v_begins v_entries v_length v_pressed v_streamFrames v_zeros v_level v_sum v_tail v_isPlayed v_found v_strange v_innerFails v_outerFails v_mostMarks v_unsure v_may v_mocks v_sumThen v_beside v_bytesOf v_channel r_3 (r_9, v_channel_10) hq_11) cal_X10_isSound tw_1499 (q0 := 0) rfl rfl [0, 1, 2, 3] [] 4 [] rfl rfl rfl rfl rfl rfl rfl rfl rfl rfl rfl (Nat.le_of_ble_eq_true rfl) hl.1 ⟨Nat.le_of_ble_eq_true rfl, Nat.le_of_ble_eq_true rfl⟩ ⟨Nat.zero_le _, Nat.zero_le _⟩ dX10_q_44 (fun H locs hw => ?_)
          refine lv_istore (pc := 47) (lv' := [(4, .int r_9), (3, .int r_3), (0, .ref a_this), (1, .int x1), (2, .int x2)]) hx hb dX10_q_47 hl (by decide) rfl (fun ls hl => ?_)
          refine lv_iload_n (pc := 49) hx hb dX10_q_49 rfl (lv_at hl 4 rfl) ?_
          refine lv_if_ne (pc := 50) (tgt := 64) hx hb dX10_q_50 (by decide) (fun hc_12 => ?_) (fun hc_12 => ?_)
          · have h := iff' hc_12 h
            refine lv_iload (pc := 64) hx hb dX10_q_64 (lv_at hl 0 rfl) ?_
            refine lv_if_ne (pc := 66) (tgt := 71) hx hb dX10_q_66 (by decide) (fun hc_13 => ?_) (fun hc_13 => ?_)
            · have h := iff' hc_13 h
              refine lv_iconst (pc := 71) (v := 0) hx hb dX10_q_71 (by decide) ?_
              refine lv_istore (pc := 72) (lv' := [(5, .int 0), (4, .int r_9), (3, .int r_3), (0, .ref a_this), (1, .int x1), (2, .int x2)]) hx hb dX10_q_72 hl (by decide) rfl (fun ls hl => ?_)
              refine lv_iconst (pc := 74) (v := 2) hx hb dX10_q_74 (by decide) ?_
              refine lv_istore (pc := 75) (lv' := [(6, .int 2), (5, .int 0), (4, .int r_9), (3, .int r_3), (0, .ref a_this), (1, .int x1), (2, .int x2)]) hx hb dX10_q_75 hl (by decide) rfl (fun ls hl => ?_)
              obtain ⟨j114_15, ej114_15, h⟩ := jk_at h
              have J114_15 : ∀ (x5_14 : Int32) (ls : Array Slot) (H : Heap) (locs : List Loc), lv_has ls 7 [(5, .int x5_14), (0, .ref a_this), (2, .int x2)] → Wd D A s (wX10_q cB cI cZ av a_this 0 v_size v_begins v_entries v_length v_pressed v_streamFrames v_zeros v_level v_sum v_tail v_isPlayed v_found v_strange v_innerFails v_outerFails v_mostMarks v_unsure v_may v_mocks v_sumThen v_beside v_bytesOf v_channel_10) H locs → j114_15 x5_14 = some res → W p l e (rmK 4 90) s m ([.ref a_this, .int x1, .int x2] : List Value).toArray below meth c H locs 0 0 (MQ below (QG D (tyL cB cI cZ) A (fun res : Int32 × Int32 × (Nat → Int32) => some (.int res.1)) (fun res : Int32 × Int32 × (Nat → Int32) => (wX10_q cB cI cZ av a_this (res.2.1) v_size v_begins v_entries v_length v_pressed v_streamFrames v_zeros v_level v_sum v_tail v_isPlayed v_found v_strange v_innerFails v_outerFails v_mostMarks v_unsure v_may v_mocks v_sumThen v_beside v_bytesOf (res.2.2))) res) ([.ref a_this, .int x1, .int x2] : List Value).toArray s 0 0 A) (F0 m 114 ls []) := by
                intro x5_14 ls H locs hl hw h
                have h := k1_at ej114_15 h
                refine lv_iload_n (pc := 114) hx hb dX10_q_114 rfl (lv_at hl 2 rfl) ?_
                refine lv_iconst (pc := 115) (v := 1) hx hb dX10_q_115 (by decide) ?_
                refine lv_icmp_ne (pc := 116) (tgt := 128) hx hb dX10_q_116 (by decide) (fun hc_16 => ?_) (fun hc_16 => ?_)
                · have h := iff' hc_16 h
                  refine lv_iload_n (pc := 128) hx hb dX10_q_128 rfl (lv_at hl 2 rfl) ?_
                  refine lv_iconst (pc := 129) (v := 2) hx hb dX10_q_129 (by decide) ?_
                  refine lv_icmp_ne (pc := 130) (tgt := 142) hx hb dX10_q_130 (by decide) (fun hc_17 => ?_) (fun hc_17 => ?_)
                  · have h := iff' hc_17 h
                    refine lv_iload_n (pc := 142) hx hb dX10_q_142 rfl (lv_at hl 2 rfl) ?_
                    refine lv_iconst (pc := 143) (v := 3) hx hb dX10_q_143 (by decide) ?_
                    refine lv_icmp_ne (pc := 144) (tgt := 156) hx hb dX10_q_144 (by decide) (fun hc_18 => ?_) (fun hc_18 => ?_)
                    · have h := iff' hc_18 h
                      refine lv_iload_n (pc := 156) hx hb dX10_q_156 rfl (lv_at hl 2 rfl) ?_
                      refine lv_iconst (pc := 157) (v := 4) hx hb dX10_q_157 (by decide) ?_
                      refine lv_icmp_ne (pc := 158) (tgt := 170) hx hb dX10_q_158 (by decide) (fun hc_19 => ?_) (fun hc_19 => ?_)
                      · have h := iff' hc_19 h
                        refine lv_iload_n (pc := 170) hx hb dX10_q_170 rfl (lv_at hl 2 rfl) ?_
                        refine lv_iconst (pc := 171) (v := 5) hx hb dX10_q_171 (by decide) ?_
                        refine lv_icmp_ne (pc := 172) (tgt := 184) hx hb dX10_q_172 (by decide) (fun hc_20 => ?_) (fun hc_20 => ?_)
                        · have h := iff' hc_20 h
                          refine lv_iload (pc := 184) hx hb dX10_q_184 (lv_at hl 0 rfl) ?_
                          exact x_iret (pc := 186) (v := (x5_14, 0, v_channel_10)) C (Option.some.inj h) rfl hw dX10_q_186
                        · have h := ift hc_20 h
                          refine lv_aload_n (pc := 175) hx hb dX10_q_175 rfl (lv_at hl 1 rfl) ?_
                          refine lv_bipush (pc := 176) (v := 56) hx hb dX10_q_176 (by decide) ?_
                          obtain ⟨r_21, hq_22, h⟩ := ob1_at h
                          refine x_callV (pc := 178) (rest := []) (stk := [.int r_21]) (wX10_q cB cI cZ av a_this 0 v_size v_begins v_entries v_length v_pressed v_streamFrames v_zeros v_level v_sum v_tail v_isPlayed v_found v_strange v_innerFails v_outerFails v_mostMarks v_unsure v_may v_mocks v_sumThen v_beside v_bytesOf v_channel_10) C hw (ct_X10_clockOf l D cB cI cZ tw av a_this 0 v_size v_begins v_entries v_length v_pressed v_streamFrames v_zeros v_level v_sum v_tail v_isPlayed v_found v_strange v_innerFails v_outerFails v_mostMarks v_unsure v_may v_mocks v_sumThen v_channel_10 56 r_21 hq_22) cal_X10_clockOf tw_1515 (q0 := 0) rfl rfl [0, 3] [1, 2] 4 [((av 37), .inl (cI, 640, .inl v_beside)), ((av 2), .inl (cI, 16384, .inl v_bytesOf))] rfl rfl rfl rfl rfl rfl rfl rfl rfl rfl rfl (Nat.le_of_ble_eq_true rfl) hl.1 ⟨Nat.le_of_ble_eq_true rfl, Nat.le_of_ble_eq_true rfl⟩ ⟨Nat.zero_le _, Nat.zero_le _⟩ dX10_q_178 (fun H locs hw => ?_)
                          refine lv_goto (pc := 181) (tgt := 186) hx hb dX10_q_181 (by decide) ?_
                          exact x_iret (pc := 186) (v := (r_21, 0, v_channel_10)) C (Option.some.inj h) rfl hw dX10_q_186
                      · have h := ift hc_19 h
                        refine lv_aload_n (pc := 161) hx hb dX10_q_161 rfl (lv_at hl 1 rfl) ?_
                        refine lv_bipush (pc := 162) (v := 24) hx hb dX10_q_162 (by decide) ?_
                        obtain ⟨r_23, hq_24, h⟩ := ob1_at h
                        refine x_callV (pc := 164) (rest := []) (stk := [.int r_23]) (wX10_q cB cI cZ av a_this 0 v_size v_begins v_entries v_length v_pressed v_streamFrames v_zeros v_level v_sum v_tail v_isPlayed v_found v_strange v_innerFails v_outerFails v_mostMarks v_unsure v_may v_mocks v_sumThen v_beside v_bytesOf v_channel_10) C hw (ct_X10_clockOf l D cB cI cZ tw av a_this 0 v_size v_begins v_entries v_length v_pressed v_streamFrames v_zeros v_level v_sum v_tail v_isPlayed v_found v_strange v_innerFails v_outerFails v_mostMarks v_unsure v_may v_mocks v_sumThen v_channel_10 24 r_23 hq_24) cal_X10_clockOf tw_1515 (q0 := 0) rfl rfl [0, 3] [1, 2] 4 [((av 37), .inl (cI, 640, .inl v_beside)), ((av 2), .inl (cI, 16384, .inl v_bytesOf))] rfl rfl rfl rfl rfl rfl rfl rfl rfl rfl rfl (Nat.le_of_ble_eq_true rfl) hl.1 ⟨Nat.le_of_ble_eq_true rfl, Nat.le_of_ble_eq_true rfl⟩ ⟨Nat.zero_le _, Nat.zero_le _⟩ dX10_q_164 (fun H locs hw => ?_)
                        refine lv_goto (pc := 167) (tgt := 186) hx hb dX10_q_167 (by decide) ?_
                        exact x_iret (pc := 186) (v := (r_23, 0, v_channel_10)) C (Option.some.inj h) rfl hw dX10_q_186
                    · have h := ift hc_18 h
                      refine lv_aload_n (pc := 147) hx hb dX10_q_147 rfl (lv_at hl 1 rfl) ?_
                      refine lv_bipush (pc := 148) (v := 16) hx hb dX10_q_148 (by decide) ?_
                      obtain ⟨r_25, hq_26, h⟩ := ob1_at h
                      refine x_callV (pc := 150) (rest := []) (stk := [.int r_25]) (wX10_q cB cI cZ av a_this 0 v_size v_begins v_entries v_length v_pressed v_streamFrames v_zeros v_level v_sum v_tail v_isPlayed v_found v_strange v_innerFails v_outerFails v_mostMarks v_unsure v_may v_mocks v_sumThen v_beside v_bytesOf v_channel_10) C hw (ct_X10_twoFigures l D cB cI cZ tw av a_this 0 v_size v_begins v_entries v_length v_pressed v_streamFrames v_zeros v_level v_sum v_tail v_isPlayed v_found v_strange v_innerFails v_outerFails v_mostMarks v_unsure v_may v_mocks v_sumThen v_channel_10 16 r_25 hq_26) cal_X10_twoFigures tw_1511 (q0 := 0) rfl rfl [0, 3] [1, 2] 4 [((av 37), .inl (cI, 640, .inl v_beside)), ((av 2), .inl (cI, 16384, .inl v_bytesOf))] rfl rfl rfl rfl rfl rfl rfl rfl rfl rfl rfl (Nat.le_of_ble_eq_true rfl) hl.1 ⟨Nat.le_of_ble_eq_true rfl, Nat.le_of_ble_eq_true rfl⟩ ⟨Nat.zero_le _, Nat.zero_le _⟩ dX10_q_150 (fun H locs hw => ?_)
                      refine lv_goto (pc := 153) (tgt := 186) hx hb dX10_q_153 (by decide) ?_
                      exact x_iret (pc := 186) (v := (r_25, 0, v_channel_10)) C (Option.some.inj h) rfl hw dX10_q_186
                  · have h := ift hc_17 h
                    refine lv_aload_n (pc := 133) hx hb dX10_q_133 rfl (lv_at hl 1 rfl) ?_
                    refine lv_bipush (pc := 134) (v := 8) hx hb dX10_q_134 (by decide) ?_
                    obtain ⟨r_27, hq_28, h⟩ := ob1_at h
                    refine x_callV (pc := 136) (rest := []) (stk := [.int r_27]) (wX10_q cB cI cZ av a_this 0 v_size v_begins v_entries v_length v_pressed v_streamFrames v_zeros v_level v_sum v_tail v_isPlayed v_found v_strange v_innerFails v_outerFails v_mostMarks v_unsure v_may v_mocks v_sumThen v_beside v_bytesOf v_channel_10) C hw (ct_X10_twoFigures l D cB cI cZ tw av a_this 0 v_size v_begins v_entries v_length v_pressed v_streamFrames v_zeros v_level v_sum v_tail v_isPlayed v_found v_strange v_innerFails v_outerFails v_mostMarks v_unsure v_may v_mocks v_sumThen v_channel_10 8 r_27 hq_28) cal_X10_twoFigures tw_1511 (q0 := 0) rfl rfl [0, 3] [1, 2] 4 [((av 37), .inl (cI, 640, .inl v_beside)), ((av 2), .inl (cI, 16384, .inl v_bytesOf))] rfl rfl rfl rfl rfl rfl rfl rfl rfl rfl rfl (Nat.le_of_ble_eq_true rfl) hl.1 ⟨Nat.le_of_ble_eq_true rfl, Nat.le_of_ble_eq_true rfl⟩ ⟨Nat.zero_le _, Nat.zero_le _⟩ dX10_q_136 (fun H locs hw => ?_)
                    refine lv_goto (pc := 139) (tgt := 186) hx hb dX10_q_139 (by decide) ?_
                    exact x_iret (pc := 186) (v := (r_27, 0, v_channel_10)) C (Option.some.inj h) rfl hw dX10_q_186
                · have h := ift hc_16 h
                  refine lv_aload_n (pc := 119) hx hb dX10_q_119 rfl (lv_at hl 1 rfl) ?_
                  refine lv_iconst (pc := 120) (v := 0) hx hb dX10_q_120 (by decide) ?_
                  refine lv_iconst (pc := 121) (v := 4) hx hb dX10_q_121 (by decide) ?_
                  obtain ⟨r_29, hq_30, h⟩ := ob1_at h
                  refine x_callV (pc := 122) (rest := []) (stk := [.int r_29]) (wX10_q cB cI cZ av a_this 0 v_size v_begins v_entries v_length v_pressed v_streamFrames v_zeros v_level v_sum v_tail v_isPlayed v_found v_strange v_innerFails v_outerFails v_mostMarks v_unsure v_may v_mocks v_sumThen v_beside v_bytesOf v_channel_10) C hw (ct_X10_channelBits l D cB cI cZ tw av a_this 0 v_size v_begins v_entries v_length v_pressed v_streamFrames v_zeros v_level v_sum v_tail v_isPlayed v_found v_strange v_innerFails v_outerFails v_mostMarks v_unsure v_may v_mocks v_sumThen v_channel_10 0 4 r_29 hq_30) cal_X10_channelBits tw_1503 (q0 := 0) rfl rfl [0, 3] [1, 2] 4 [((av 37), .inl (cI, 640, .inl v_beside)), ((av 2), .inl (cI, 16384, .inl v_bytesOf))] rfl rfl rfl rfl rfl rfl rfl rfl rfl rfl rfl (Nat.le_of_ble_eq_true rfl) hl.1 ⟨Nat.le_of_ble_eq_true rfl, Nat.le_of_ble_eq_true rfl⟩ ⟨Nat.zero_le _, Nat.zero_le _⟩ dX10_q_122 (fun H locs hw => ?_)
                  refine lv_goto (pc := 125) (tgt := 186) hx hb dX10_q_125 (by decide) ?_
                  exact x_iret (pc := 186) (v := (r_29, 0, v_channel_10)) C (Option.some.inj h) rfl hw dX10_q_186
              have Lih77_33 : ∀ (F : Nat) (x6_31 : Int32) (x5_32 : Int32) (ls : Array Slot) (H : Heap) (locs : List Loc), lv_has ls 7 [(6, .int x6_31), (5, .int x5_32), (3, .int r_3), (0, .ref a_this), (2, .int x2)] → Wd D A s (wX10_q cB cI cZ av a_this 0 v_size v_begins v_entries v_length v_pressed v_streamFrames v_zeros v_level v_sum v_tail v_isPlayed v_found v_strange v_innerFails v_outerFails v_mostMarks v_unsure v_may v_mocks v_sumThen v_beside v_bytesOf v_channel_10) H locs → fX10_q_L77 j114_15 r_3 v_beside v_bytesOf F x6_31 x5_32 = some res → W p l e (rmK 4 90) s m ([.ref a_this, .int x1, .int x2] : List Value).toArray below meth c H locs 0 0 (MQ below (QG D (tyL cB cI cZ) A (fun res : Int32 × Int32 × (Nat → Int32) => some (.int res.1)) (fun res : Int32 × Int32 × (Nat → Int32) => (wX10_q cB cI cZ av a_this (res.2.1) v_size v_begins v_entries v_length v_pressed v_streamFrames v_zeros v_level v_sum v_tail v_isPlayed v_found v_strange v_innerFails v_outerFails v_mostMarks v_unsure v_may v_mocks v_sumThen v_beside v_bytesOf (res.2.2))) res) ([.ref a_this, .int x1, .int x2] : List Value).toArray s 0 0 A) (F0 m 77 ls []) := by
                intro F
                induction F with
                | zero => intro x6_31 x5_32 ls H locs hl hw h; rw [fX10_q_L77.eq_1] at h; cases h
                | succ F77_33 ih77_33 =>
                  intro x6_31 x5_32 ls H locs hl hw h
                  rw [fX10_q_L77.eq_2] at h
                  refine lv_iload (pc := 77) hx hb dX10_q_77 (lv_at hl 0 rfl) ?_
                  refine lv_bipush (pc := 79) (v := 98) hx hb dX10_q_79 (by decide) ?_
                  refine lv_icmp_ge (pc := 81) (tgt := 114) hx hb dX10_q_81 (by decide) (fun hc_34 => ?_) (fun hc_34 => ?_)
                  · have h := ift hc_34 h
                    exact J114_15 x5_32 ls _ _ (lv_sub hl [1, 3, 4] rfl) hw h
                  · have h := iff' hc_34 h
                    refine lv_iload (pc := 84) hx hb dX10_q_84 (lv_at hl 1 rfl) ?_
                    refine lv_aload_n (pc := 86) hx hb dX10_q_86 rfl (lv_at hl 3 rfl) ?_
                    refine gf_X10_13 (pc := 87) C hw 0 rfl rfl dX10_q_87 ?_
                    refine lv_aload_n (pc := 90) hx hb dX10_q_90 rfl (lv_at hl 3 rfl) ?_
                    refine gf_X10_85 (pc := 91) C hw 0 rfl rfl dX10_q_91 ?_
                    refine lv_iload_n (pc := 94) hx hb dX10_q_94 rfl (lv_at hl 2 rfl) ?_
                    refine lv_iload (pc := 95) hx hb dX10_q_95 (lv_at hl 0 rfl) ?_
                    refine lv_iadd (pc := 97) hx hb dX10_q_97 ?_
                    obtain ⟨hi_35, h⟩ := og_at h
                    refine x_iald (pc := 98) C hw 1 rfl hi_35 dX10_q_98 ?_
                    obtain ⟨hi_36, h⟩ := og_at h
                    refine x_iald (pc := 99) C hw 2 rfl hi_36 dX10_q_99 ?_
                    refine lv_bipush (pc := 100) (v := 7) hx hb dX10_q_100 (by decide) ?_
                    refine lv_ishr (pc := 102) hx hb dX10_q_102 ?_
                    refine lv_iconst (pc := 103) (v := 1) hx hb dX10_q_103 (by decide) ?_
                    refine lv_iand (pc := 104) hx hb dX10_q_104 ?_
                    refine lv_iadd (pc := 105) hx hb dX10_q_105 ?_
                    refine lv_topi (pc := 106) (fun x5_37 ex5_37 => ?_)
                    have h := nm_at ex5_37 h
                    refine lv_istore (pc := 106) (lv' := [(5, .int x5_37), (6, .int x6_31), (3, .int r_3), (0, .ref a_this), (2, .int x2)]) hx hb dX10_q_106 hl (by decide) rfl (fun ls hl => ?_)
                    obtain ⟨x6_38, ex6_38⟩ : ∃ y : Int32, y = x6_31 + 1 := ⟨_, rfl⟩
                    have h := nm_at ex6_38 h
                    refine lv_iinc (pc := 108) (v := x6_38) (lv' := [(6, .int x6_38), (5, .int x5_37), (3, .int r_3), (0, .ref a_this), (2, .int x2)]) hx hb dX10_q_108 hl (k := 1) rfl (by rw [ex6_38]; rfl) (by decide) rfl (fun ls hl => ?_)
                    refine lv_goto (pc := 111) (tgt := 77) hx hb dX10_q_111 (by decide) ?_
                    exact ih77_33 x6_38 x5_37 ls _ _ (lv_sub hl [0, 1, 2, 3, 4] rfl) hw h
              exact Lih77_33 FU 2 0 ls _ _ (lv_sub hl [0, 1, 3, 4, 6] rfl) hw h
            · have h := ift hc_13 h
              refine lv_iconst (pc := 69) (v := (-1)) hx hb dX10_q_69 (by decide) ?_
              exact x_iret (pc := 70) (v := ((-1), 0, v_channel_10)) C (Option.some.inj h) rfl hw dX10_q_70
          · have h := ift hc_12 h
            refine lv_iload (pc := 53) hx hb dX10_q_53 (lv_at hl 0 rfl) ?_
            refine lv_if_eq (pc := 55) (tgt := 62) hx hb dX10_q_55 (by decide) (fun hc_39 => ?_) (fun hc_39 => ?_)
            · have h := ift hc_39 h
              refine lv_iconst (pc := 62) (v := 0) hx hb dX10_q_62 (by decide) ?_
              exact x_iret (pc := 63) (v := (0, 0, v_channel_10)) C (Option.some.inj h) rfl hw dX10_q_63
            · have h := iff' hc_39 h
              refine lv_iconst (pc := 58) (v := 1) hx hb dX10_q_58 (by decide) ?_
              refine lv_goto (pc := 59) (tgt := 63) hx hb dX10_q_59 (by decide) ?_
              exact x_iret (pc := 63) (v := (1, 0, v_channel_10)) C (Option.some.inj h) rfl hw dX10_q_63
        · have h := ift hc_8 h
          refine lv_iconst (pc := 40) (v := (-1)) hx hb dX10_q_40 (by decide) ?_
          exact x_iret (pc := 41) (v := ((-1), 0, v_channel)) C (Option.some.inj h) rfl hw dX10_q_41
    · have h := iff' hc_2 h
      refine lv_iconst (pc := 16) (v := (-1)) hx hb dX10_q_16 (by decide) ?_
      exact x_iret (pc := 17) (v := ((-1), 0, v_channel)) C (Option.some.inj h) rfl hw dX10_q_17
def wX10_burst (cB cI cZ : ClassId) (av : Nat → Nat) (a_this : Nat) (v_thrown : Int32) (v_size : Int32) (v_begins : Int32) (v_entries : Int32) (v_length : Int32) (v_pressed : Int32) (v_streamFrames : Int32) (v_zeros : Int32) (v_level : Int32) (v_sum : Int32) (v_tail : Int32) (v_isPlayed : Int32) (v_found : Int32) (v_strange : Int32) (v_innerFails : Int32) (v_outerFails : Int32) (v_mostMarks : Int32) (v_unsure : Int32) (v_may : Int32) (v_mocks : Int32) (v_sumThen : Int32) : va_W := [oX10 a_this av v_thrown v_size v_begins v_entries v_length v_pressed v_streamFrames v_zeros v_level v_sum v_tail v_isPlayed v_found v_strange v_innerFails v_outerFails v_mostMarks v_unsure v_may v_mocks v_sumThen]
def fX10_burst_L37 (j100_9 : Int32 → Option (Int32 × Int32)) (x3_4 : Int32) (x1 : Int32) : Nat → Int32 → Int32 → Option (Int32 × Int32)
  | 0, _, _ => none
  | F37_16 + 1, x5_14, x4_15 => if (28 : Int32) ≤ x5_14 then j100_9 x4_15 else nt1 (fX10_in (Int32.toInt64 ((4 : Int32) * x5_14)) (Int32.toInt64 x3_4) (Int32.toInt64 ((x3_4 + x1) - (1 : Int32)))) fun r_18 => jk (fun (t_20 : Int32) => nm ((x4_15 + t_20) : Int32) fun x4_22 => nm (x5_14 + 1 : Int32) fun x5_23 => fX10_burst_L37 j100_9 x3_4 x1 F37_16 x5_23 x4_22) fun j91_21 => jk (j91_21 1) fun j86_24 => if r_18 = 0 then nt1 (fX10_in (Int32.toInt64 (((4 : Int32) * x5_14) + (1 : Int32))) (Int32.toInt64 x3_4) (Int32.toInt64 ((x3_4 + x1) - (1 : Int32)))) fun r_26 => if r_26 = 0 then j91_21 0 else j86_24 else j86_24
def fX10_burst_L25 (x1 : Int32) : Nat → Int32 → Int32 → Option (Int32 × Int32)
  | 0, _, _ => none
  | F25_6 + 1, x3_4, x2_5 => if (120 : Int32) ≤ x3_4 then some (x2_5, 0) else jk (fun (x4_8 : Int32) => jk (fun (t_10 : Int32) => nm (x3_4 + 1 : Int32) fun x3_12 => fX10_burst_L25 x1 F25_6 x3_12 t_10) fun j112_11 => if x4_8 ≤ x2_5 then j112_11 x2_5 else j112_11 x4_8) fun j100_9 => fX10_burst_L37 j100_9 x3_4 x1 FU 0 0
def fX10_burst (v_thrown : Int32) (x1 : Int32) : Option (Int32 × Int32) := nt1 (fX10_in (Int32.toInt64 x1) 1 200) fun r_1 => if r_1 = 0 then some ((-1), 0) else fX10_burst_L25 x1 FU (-200) 0
set_option maxHeartbeats 4000000 in
set_option maxRecDepth 100000 in
theorem ct_X10_burst (l : Launch) (D : va_G) (cB cI cZ : ClassId) (tw : Nat) (av : Nat → Nat) (a_this : Nat) (v_thrown : Int32) (v_size : Int32) (v_begins : Int32) (v_entries : Int32) (v_length : Int32) (v_pressed : Int32) (v_streamFrames : Int32) (v_zeros : Int32) (v_level : Int32) (v_sum : Int32) (v_tail : Int32) (v_isPlayed : Int32) (v_found : Int32) (v_strange : Int32) (v_innerFails : Int32) (v_outerFails : Int32) (v_mostMarks : Int32) (v_unsure : Int32) (v_may : Int32) (v_mocks : Int32) (v_sumThen : Int32) (x1 : Int32) (res : Int32 × Int32) (h : fX10_burst v_thrown x1 = some res) : Ctr l yX10_burst cX10_burst 6 (some .int) (rmK 1 25) D (tyL cB cI cZ) tw [.ref a_this, .int x1] (wX10_burst cB cI cZ av a_this v_thrown v_size v_begins v_entries v_length v_pressed v_streamFrames v_zeros v_level v_sum v_tail v_isPlayed v_found v_strange v_innerFails v_outerFails v_mostMarks v_unsure v_may v_mocks v_sumThen) (fun res : Int32 × Int32 => some (.int res.1)) (fun res : Int32 × Int32 => (wX10_burst cB cI cZ av a_this (res.2) v_size v_begins v_entries v_length v_pressed v_streamFrames v_zeros v_level v_sum v_tail v_isPlayed v_found v_strange v_innerFails v_outerFails v_mostMarks v_unsure v_may v_mocks v_sumThen)) res := by
  refine ctr_of RX10 (by decide) rfl (Nat.le_of_ble_eq_true rfl) ?_
  intro p e s m below meth c A C hw ls hl
  have hx := C.1
  have hb := C.2.1
  have hl : lv_has ls 6 [(0, .ref a_this), (1, .int x1)] := hl
  unfold fX10_burst at h
  refine lv_aload_n (pc := 0) hx hb dX10_burst_0 rfl (lv_at hl 0 rfl) ?_
  refine lv_iconst (pc := 1) (v := 0) hx hb dX10_burst_1 (by decide) ?_
  refine pf_X10_100 (pc := 2) (wX10_burst cB cI cZ av a_this 0 v_size v_begins v_entries v_length v_pressed v_streamFrames v_zeros v_level v_sum v_tail v_isPlayed v_found v_strange v_innerFails v_outerFails v_mostMarks v_unsure v_may v_mocks v_sumThen) C hw 0 rfl rfl rfl rfl (Nat.le_of_ble_eq_true rfl) dX10_burst_2 (fun H locs hw => ?_)
  refine lv_iload_n (pc := 5) hx hb dX10_burst_5 rfl (lv_at hl 1 rfl) ?_
  refine lv_i2l (pc := 6) hx hb dX10_burst_6 rfl ?_
  refine lv_lconst (pc := 7) (v := 1) hx hb dX10_burst_7 (by decide) ?_
  refine lv_ldc2 (pc := 8) (own := RX10) (v := 200) hx hb C.2.2.2.1 (C.2.2.2.2.1 _ tw_1523) dX10_burst_8 ?_
  obtain ⟨r_1, hq_2, h⟩ := nt1_at h
  refine x_callS (pc := 11) (rest := []) (stk := [.int r_1]) (wX10_burst cB cI cZ av a_this 0 v_size v_begins v_entries v_length v_pressed v_streamFrames v_zeros v_level v_sum v_tail v_isPlayed v_found v_strange v_innerFails v_outerFails v_mostMarks v_unsure v_may v_mocks v_sumThen) C hw (ct_X10_in l D cB cI cZ tw av (Int32.toInt64 x1) 1 200 r_1 hq_2.symm) cal_X10_in tw_1176 [] [0] 1 [oX10 a_this av 0 v_size v_begins v_entries v_length v_pressed v_streamFrames v_zeros v_level v_sum v_tail v_isPlayed v_found v_strange v_innerFails v_outerFails v_mostMarks v_unsure v_may v_mocks v_sumThen] rfl rfl rfl rfl rfl rfl rfl rfl rfl rfl rfl (Nat.le_of_ble_eq_true rfl) hl.1 ⟨Nat.le_of_ble_eq_true rfl, Nat.le_of_ble_eq_true rfl⟩ ⟨Nat.zero_le _, Nat.zero_le _⟩ dX10_burst_11 (fun H locs hw => ?_)
  refine lv_if_ne (pc := 14) (tgt := 19) hx hb dX10_burst_14 (by decide) (fun hc_3 => ?_) (fun hc_3 => ?_)
  · have h := iff' hc_3 h
    refine lv_iconst (pc := 19) (v := 0) hx hb dX10_burst_19 (by decide) ?_
    refine lv_istore_n (pc := 20) (lv' := [(2, .int 0), (0, .ref a_this), (1, .int x1)]) hx hb dX10_burst_20 rfl hl (by decide) rfl (fun ls hl => ?_)
    refine lv_sipush (pc := 21) (v := (-200)) hx hb dX10_burst_21 (by decide) ?_
    refine lv_istore_n (pc := 24) (lv' := [(3, .int (-200)), (2, .int 0), (0, .ref a_this), (1, .int x1)]) hx hb dX10_burst_24 rfl hl (by decide) rfl (fun ls hl => ?_)
    have Lih25_6 : ∀ (F : Nat) (x3_4 : Int32) (x2_5 : Int32) (ls : Array Slot) (H : Heap) (locs : List Loc), lv_has ls 6 [(3, .int x3_4), (2, .int x2_5), (1, .int x1)] → Wd D A s (wX10_burst cB cI cZ av a_this 0 v_size v_begins v_entries v_length v_pressed v_streamFrames v_zeros v_level v_sum v_tail v_isPlayed v_found v_strange v_innerFails v_outerFails v_mostMarks v_unsure v_may v_mocks v_sumThen) H locs → fX10_burst_L25 x1 F x3_4 x2_5 = some res → W p l e (rmK 1 25) s m ([.ref a_this, .int x1] : List Value).toArray below meth c H locs 0 0 (MQ below (QG D (tyL cB cI cZ) A (fun res : Int32 × Int32 => some (.int res.1)) (fun res : Int32 × Int32 => (wX10_burst cB cI cZ av a_this (res.2) v_size v_begins v_entries v_length v_pressed v_streamFrames v_zeros v_level v_sum v_tail v_isPlayed v_found v_strange v_innerFails v_outerFails v_mostMarks v_unsure v_may v_mocks v_sumThen)) res) ([.ref a_this, .int x1] : List Value).toArray s 0 0 A) (F0 m 25 ls []) := by
      intro F
      induction F with
      | zero => intro x3_4 x2_5 ls H locs hl hw h; rw [fX10_burst_L25.eq_1] at h; cases h
      | succ F25_6 ih25_6 =>
        intro x3_4 x2_5 ls H locs hl hw h
        rw [fX10_burst_L25.eq_2] at h
        refine lv_iload_n (pc := 25) hx hb dX10_burst_25 rfl (lv_at hl 0 rfl) ?_
        refine lv_bipush (pc := 26) (v := 120) hx hb dX10_burst_26 (by decide) ?_
        refine lv_icmp_ge (pc := 28) (tgt := 119) hx hb dX10_burst_28 (by decide) (fun hc_7 => ?_) (fun hc_7 => ?_)
        · have h := ift hc_7 h
          refine lv_iload_n (pc := 119) hx hb dX10_burst_119 rfl (lv_at hl 1 rfl) ?_
          exact x_iret (pc := 120) (v := (x2_5, 0)) C (Option.some.inj h) rfl hw dX10_burst_120
        · have h := iff' hc_7 h
          refine lv_iconst (pc := 31) (v := 0) hx hb dX10_burst_31 (by decide) ?_
          refine lv_istore (pc := 32) (lv' := [(4, .int 0), (3, .int x3_4), (2, .int x2_5), (1, .int x1)]) hx hb dX10_burst_32 hl (by decide) rfl (fun ls hl => ?_)
          refine lv_iconst (pc := 34) (v := 0) hx hb dX10_burst_34 (by decide) ?_
          refine lv_istore (pc := 35) (lv' := [(5, .int 0), (4, .int 0), (3, .int x3_4), (2, .int x2_5), (1, .int x1)]) hx hb dX10_burst_35 hl (by decide) rfl (fun ls hl => ?_)
          obtain ⟨j100_9, ej100_9, h⟩ := jk_at h
          have J100_9 : ∀ (x4_8 : Int32) (ls : Array Slot) (H : Heap) (locs : List Loc), lv_has ls 6 [(4, .int x4_8), (3, .int x3_4), (2, .int x2_5), (1, .int x1)] → Wd D A s (wX10_burst cB cI cZ av a_this 0 v_size v_begins v_entries v_length v_pressed v_streamFrames v_zeros v_level v_sum v_tail v_isPlayed v_found v_strange v_innerFails v_outerFails v_mostMarks v_unsure v_may v_mocks v_sumThen) H locs → j100_9 x4_8 = some res → W p l e (rmK 1 25) s m ([.ref a_this, .int x1] : List Value).toArray below meth c H locs 0 0 (MQ below (QG D (tyL cB cI cZ) A (fun res : Int32 × Int32 => some (.int res.1)) (fun res : Int32 × Int32 => (wX10_burst cB cI cZ av a_this (res.2) v_size v_begins v_entries v_length v_pressed v_streamFrames v_zeros v_level v_sum v_tail v_isPlayed v_found v_strange v_innerFails v_outerFails v_mostMarks v_unsure v_may v_mocks v_sumThen)) res) ([.ref a_this, .int x1] : List Value).toArray s 0 0 A) (F0 m 100 ls []) := by
            intro x4_8 ls H locs hl hw h
            have h := k1_at ej100_9 h
            refine lv_iload (pc := 100) hx hb dX10_burst_100 (lv_at hl 0 rfl) ?_
            refine lv_iload_n (pc := 102) hx hb dX10_burst_102 rfl (lv_at hl 2 rfl) ?_
            obtain ⟨j112_11, ej112_11, h⟩ := jk_at h
            have J112_11 : ∀ (t_10 : Int32) (ls : Array Slot) (H : Heap) (locs : List Loc), lv_has ls 6 [(3, .int x3_4), (1, .int x1)] → Wd D A s (wX10_burst cB cI cZ av a_this 0 v_size v_begins v_entries v_length v_pressed v_streamFrames v_zeros v_level v_sum v_tail v_isPlayed v_found v_strange v_innerFails v_outerFails v_mostMarks v_unsure v_may v_mocks v_sumThen) H locs → j112_11 t_10 = some res → W p l e (rmK 1 25) s m ([.ref a_this, .int x1] : List Value).toArray below meth c H locs 0 0 (MQ below (QG D (tyL cB cI cZ) A (fun res : Int32 × Int32 => some (.int res.1)) (fun res : Int32 × Int32 => (wX10_burst cB cI cZ av a_this (res.2) v_size v_begins v_entries v_length v_pressed v_streamFrames v_zeros v_level v_sum v_tail v_isPlayed v_found v_strange v_innerFails v_outerFails v_mostMarks v_unsure v_may v_mocks v_sumThen)) res) ([.ref a_this, .int x1] : List Value).toArray s 0 0 A) (F0 m 112 ls [.int t_10]) := by
              intro t_10 ls H locs hl hw h
              have h := k1_at ej112_11 h
              refine lv_istore_n (pc := 112) (lv' := [(2, .int t_10), (3, .int x3_4), (1, .int x1)]) hx hb dX10_burst_112 rfl hl (by decide) rfl (fun ls hl => ?_)
              obtain ⟨x3_12, ex3_12⟩ : ∃ y : Int32, y = x3_4 + 1 := ⟨_, rfl⟩
              have h := nm_at ex3_12 h
              refine lv_iinc (pc := 113) (v := x3_12) (lv' := [(3, .int x3_12), (2, .int t_10), (1, .int x1)]) hx hb dX10_burst_113 hl (k := 1) rfl (by rw [ex3_12]; rfl) (by decide) rfl (fun ls hl => ?_)
              refine lv_goto (pc := 116) (tgt := 25) hx hb dX10_burst_116 (by decide) ?_
              exact ih25_6 x3_12 t_10 ls _ _ (lv_sub hl [0, 1, 2] rfl) hw h
            refine lv_icmp_le (pc := 103) (tgt := 111) hx hb dX10_burst_103 (by decide) (fun hc_13 => ?_) (fun hc_13 => ?_)
            · have h := ift hc_13 h
              refine lv_iload_n (pc := 111) hx hb dX10_burst_111 rfl (lv_at hl 2 rfl) ?_
              exact J112_11 x2_5 ls _ _ (lv_sub hl [1, 3] rfl) hw h
            · have h := iff' hc_13 h
              refine lv_iload (pc := 106) hx hb dX10_burst_106 (lv_at hl 0 rfl) ?_
              refine lv_goto (pc := 108) (tgt := 112) hx hb dX10_burst_108 (by decide) ?_
              exact J112_11 x4_8 ls _ _ (lv_sub hl [1, 3] rfl) hw h
          have Lih37_16 : ∀ (F : Nat) (x5_14 : Int32) (x4_15 : Int32) (ls : Array Slot) (H : Heap) (locs : List Loc), lv_has ls 6 [(5, .int x5_14), (4, .int x4_15), (3, .int x3_4), (2, .int x2_5), (1, .int x1)] → Wd D A s (wX10_burst cB cI cZ av a_this 0 v_size v_begins v_entries v_length v_pressed v_streamFrames v_zeros v_level v_sum v_tail v_isPlayed v_found v_strange v_innerFails v_outerFails v_mostMarks v_unsure v_may v_mocks v_sumThen) H locs → fX10_burst_L37 j100_9 x3_4 x1 F x5_14 x4_15 = some res → W p l e (rmK 1 25) s m ([.ref a_this, .int x1] : List Value).toArray below meth c H locs 0 0 (MQ below (QG D (tyL cB cI cZ) A (fun res : Int32 × Int32 => some (.int res.1)) (fun res : Int32 × Int32 => (wX10_burst cB cI cZ av a_this (res.2) v_size v_begins v_entries v_length v_pressed v_streamFrames v_zeros v_level v_sum v_tail v_isPlayed v_found v_strange v_innerFails v_outerFails v_mostMarks v_unsure v_may v_mocks v_sumThen)) res) ([.ref a_this, .int x1] : List Value).toArray s 0 0 A) (F0 m 37 ls []) := by
            intro F
            induction F with
            | zero => intro x5_14 x4_15 ls H locs hl hw h; rw [fX10_burst_L37.eq_1] at h; cases h
            | succ F37_16 ih37_16 =>
              intro x5_14 x4_15 ls H locs hl hw h
              rw [fX10_burst_L37.eq_2] at h
              refine lv_iload (pc := 37) hx hb dX10_burst_37 (lv_at hl 0 rfl) ?_
              refine lv_bipush (pc := 39) (v := 28) hx hb dX10_burst_39 (by decide) ?_
              refine lv_icmp_ge (pc := 41) (tgt := 100) hx hb dX10_burst_41 (by decide) (fun hc_17 => ?_) (fun hc_17 => ?_)
              · have h := ift hc_17 h
                exact J100_9 x4_15 ls _ _ (lv_sub hl [1, 2, 3, 4] rfl) hw h
              · have h := iff' hc_17 h
                refine lv_iload (pc := 44) hx hb dX10_burst_44 (lv_at hl 1 rfl) ?_
                refine lv_iconst (pc := 46) (v := 4) hx hb dX10_burst_46 (by decide) ?_
                refine lv_iload (pc := 47) hx hb dX10_burst_47 (lv_at hl 0 rfl) ?_
                refine lv_imul (pc := 49) hx hb dX10_burst_49 ?_
                refine lv_i2l (pc := 50) hx hb dX10_burst_50 rfl ?_
                refine lv_iload_n (pc := 51) hx hb dX10_burst_51 rfl (lv_at hl 2 rfl) ?_
                refine lv_i2l (pc := 52) hx hb dX10_burst_52 rfl ?_
                refine lv_iload_n (pc := 53) hx hb dX10_burst_53 rfl (lv_at hl 2 rfl) ?_
                refine lv_iload_n (pc := 54) hx hb dX10_burst_54 rfl (lv_at hl 4 rfl) ?_
                refine lv_iadd (pc := 55) hx hb dX10_burst_55 ?_
                refine lv_iconst (pc := 56) (v := 1) hx hb dX10_burst_56 (by decide) ?_
                refine lv_isub (pc := 57) hx hb dX10_burst_57 ?_
                refine lv_i2l (pc := 58) hx hb dX10_burst_58 rfl ?_
                obtain ⟨r_18, hq_19, h⟩ := nt1_at h
                refine x_callS (pc := 59) (rest := [.int x4_15]) (stk := [.int r_18, .int x4_15]) (wX10_burst cB cI cZ av a_this 0 v_size v_begins v_entries v_length v_pressed v_streamFrames v_zeros v_level v_sum v_tail v_isPlayed v_found v_strange v_innerFails v_outerFails v_mostMarks v_unsure v_may v_mocks v_sumThen) C hw (ct_X10_in l D cB cI cZ tw av (Int32.toInt64 ((4 : Int32) * x5_14)) (Int32.toInt64 x3_4) (Int32.toInt64 ((x3_4 + x1) - (1 : Int32))) r_18 hq_19.symm) cal_X10_in tw_1176 [] [0] 1 [oX10 a_this av 0 v_size v_begins v_entries v_length v_pressed v_streamFrames v_zeros v_level v_sum v_tail v_isPlayed v_found v_strange v_innerFails v_outerFails v_mostMarks v_unsure v_may v_mocks v_sumThen] rfl rfl rfl rfl rfl rfl rfl rfl rfl rfl rfl (Nat.le_of_ble_eq_true rfl) hl.1 ⟨Nat.le_of_ble_eq_true rfl, Nat.le_of_ble_eq_true rfl⟩ ⟨Nat.zero_le _, Nat.zero_le _⟩ dX10_burst_59 (fun H locs hw => ?_)
                obtain ⟨j91_21, ej91_21, h⟩ := jk_at h
                have J91_21 : ∀ (t_20 : Int32) (ls : Array Slot) (H : Heap) (locs : List Loc), lv_has ls 6 [(5, .int x5_14), (3, .int x3_4), (2, .int x2_5), (1, .int x1)] → Wd D A s (wX10_burst cB cI cZ av a_this 0 v_size v_begins v_entries v_length v_pressed v_streamFrames v_zeros v_level v_sum v_tail v_isPlayed v_found v_strange v_innerFails v_outerFails v_mostMarks v_unsure v_may v_mocks v_sumThen) H locs → j91_21 t_20 = some res → W p l e (rmK 1 25) s m ([.ref a_this, .int x1] : List Value).toArray below meth c H locs 0 0 (MQ below (QG D (tyL cB cI cZ) A (fun res : Int32 × Int32 => some (.int res.1)) (fun res : Int32 × Int32 => (wX10_burst cB cI cZ av a_this (res.2) v_size v_begins v_entries v_length v_pressed v_streamFrames v_zeros v_level v_sum v_tail v_isPlayed v_found v_strange v_innerFails v_outerFails v_mostMarks v_unsure v_may v_mocks v_sumThen)) res) ([.ref a_this, .int x1] : List Value).toArray s 0 0 A) (F0 m 91 ls [.int t_20, .int x4_15]) := by
                  intro t_20 ls H locs hl hw h
                  have h := k1_at ej91_21 h
                  refine lv_iadd (pc := 91) hx hb dX10_burst_91 ?_
                  refine lv_topi (pc := 92) (fun x4_22 ex4_22 => ?_)
                  have h := nm_at ex4_22 h
                  refine lv_istore (pc := 92) (lv' := [(4, .int x4_22), (5, .int x5_14), (3, .int x3_4), (2, .int x2_5), (1, .int x1)]) hx hb dX10_burst_92 hl (by decide) rfl (fun ls hl => ?_)
                  obtain ⟨x5_23, ex5_23⟩ : ∃ y : Int32, y = x5_14 + 1 := ⟨_, rfl⟩
                  have h := nm_at ex5_23 h
                  refine lv_iinc (pc := 94) (v := x5_23) (lv' := [(5, .int x5_23), (4, .int x4_22), (3, .int x3_4), (2, .int x2_5), (1, .int x1)]) hx hb dX10_burst_94 hl (k := 1) rfl (by rw [ex5_23]; rfl) (by decide) rfl (fun ls hl => ?_)
                  refine lv_goto (pc := 97) (tgt := 37) hx hb dX10_burst_97 (by decide) ?_
                  exact ih37_16 x5_23 x4_22 ls _ _ (lv_sub hl [0, 1, 2, 3, 4] rfl) hw h
                obtain ⟨j86_24, ej86_24, h⟩ := jk_at h
                have J86_24 : ∀  (ls : Array Slot) (H : Heap) (locs : List Loc), lv_has ls 6 [(5, .int x5_14), (3, .int x3_4), (2, .int x2_5), (1, .int x1)] → Wd D A s (wX10_burst cB cI cZ av a_this 0 v_size v_begins v_entries v_length v_pressed v_streamFrames v_zeros v_level v_sum v_tail v_isPlayed v_found v_strange v_innerFails v_outerFails v_mostMarks v_unsure v_may v_mocks v_sumThen) H locs → j86_24 = some res → W p l e (rmK 1 25) s m ([.ref a_this, .int x1] : List Value).toArray below meth c H locs 0 0 (MQ below (QG D (tyL cB cI cZ) A (fun res : Int32 × Int32 => some (.int res.1)) (fun res : Int32 × Int32 => (wX10_burst cB cI cZ av a_this (res.2) v_size v_begins v_entries v_length v_pressed v_streamFrames v_zeros v_level v_sum v_tail v_isPlayed v_found v_strange v_innerFails v_outerFails v_mostMarks v_unsure v_may v_mocks v_sumThen)) res) ([.ref a_this, .int x1] : List Value).toArray s 0 0 A) (F0 m 86 ls [.int x4_15]) := by
                  intro  ls H locs hl hw h
                  have h := k0_at ej86_24 h
                  refine lv_iconst (pc := 86) (v := 1) hx hb dX10_burst_86 (by decide) ?_
                  refine lv_goto (pc := 87) (tgt := 91) hx hb dX10_burst_87 (by decide) ?_
                  exact J91_21 1 ls _ _ (lv_sub hl [0, 1, 2, 3] rfl) hw h
                refine lv_if_ne (pc := 62) (tgt := 86) hx hb dX10_burst_62 (by decide) (fun hc_25 => ?_) (fun hc_25 => ?_)
                · have h := iff' hc_25 h
                  exact J86_24  ls _ _ (lv_sub hl [0, 2, 3, 4] rfl) hw h
                · have h := ift hc_25 h
                  refine lv_iconst (pc := 65) (v := 4) hx hb dX10_burst_65 (by decide) ?_
                  refine lv_iload (pc := 66) hx hb dX10_burst_66 (lv_at hl 0 rfl) ?_
                  refine lv_imul (pc := 68) hx hb dX10_burst_68 ?_
                  refine lv_iconst (pc := 69) (v := 1) hx hb dX10_burst_69 (by decide) ?_
                  refine lv_iadd (pc := 70) hx hb dX10_burst_70 ?_
                  refine lv_i2l (pc := 71) hx hb dX10_burst_71 rfl ?_
                  refine lv_iload_n (pc := 72) hx hb dX10_burst_72 rfl (lv_at hl 2 rfl) ?_
                  refine lv_i2l (pc := 73) hx hb dX10_burst_73 rfl ?_
                  refine lv_iload_n (pc := 74) hx hb dX10_burst_74 rfl (lv_at hl 2 rfl) ?_
                  refine lv_iload_n (pc := 75) hx hb dX10_burst_75 rfl (lv_at hl 4 rfl) ?_
                  refine lv_iadd (pc := 76) hx hb dX10_burst_76 ?_
                  refine lv_iconst (pc := 77) (v := 1) hx hb dX10_burst_77 (by decide) ?_
                  refine lv_isub (pc := 78) hx hb dX10_burst_78 ?_
                  refine lv_i2l (pc := 79) hx hb dX10_burst_79 rfl ?_
                  obtain ⟨r_26, hq_27, h⟩ := nt1_at h
                  refine x_callS (pc := 80) (rest := [.int x4_15]) (stk := [.int r_26, .int x4_15]) (wX10_burst cB cI cZ av a_this 0 v_size v_begins v_entries v_length v_pressed v_streamFrames v_zeros v_level v_sum v_tail v_isPlayed v_found v_strange v_innerFails v_outerFails v_mostMarks v_unsure v_may v_mocks v_sumThen) C hw (ct_X10_in l D cB cI cZ tw av (Int32.toInt64 (((4 : Int32) * x5_14) + (1 : Int32))) (Int32.toInt64 x3_4) (Int32.toInt64 ((x3_4 + x1) - (1 : Int32))) r_26 hq_27.symm) cal_X10_in tw_1176 [] [0] 1 [oX10 a_this av 0 v_size v_begins v_entries v_length v_pressed v_streamFrames v_zeros v_level v_sum v_tail v_isPlayed v_found v_strange v_innerFails v_outerFails v_mostMarks v_unsure v_may v_mocks v_sumThen] rfl rfl rfl rfl rfl rfl rfl rfl rfl rfl rfl (Nat.le_of_ble_eq_true rfl) hl.1 ⟨Nat.le_of_ble_eq_true rfl, Nat.le_of_ble_eq_true rfl⟩ ⟨Nat.zero_le _, Nat.zero_le _⟩ dX10_burst_80 (fun H locs hw => ?_)
                  refine lv_if_eq (pc := 83) (tgt := 90) hx hb dX10_burst_83 (by decide) (fun hc_28 => ?_) (fun hc_28 => ?_)
                  · have h := ift hc_28 h
                    refine lv_iconst (pc := 90) (v := 0) hx hb dX10_burst_90 (by decide) ?_
                    exact J91_21 0 ls _ _ (lv_sub hl [0, 2, 3, 4] rfl) hw h
                  · have h := iff' hc_28 h
                    exact J86_24  ls _ _ (lv_sub hl [0, 2, 3, 4] rfl) hw h
          exact Lih37_16 FU 0 0 ls _ _ (lv_sub hl [0, 1, 2, 3, 4] rfl) hw h
    exact Lih25_6 FU (-200) 0 ls _ _ (lv_sub hl [0, 1, 3] rfl) hw h
  · have h := ift hc_3 h
    refine lv_iconst (pc := 17) (v := (-1)) hx hb dX10_burst_17 (by decide) ?_
    exact x_iret (pc := 18) (v := ((-1), 0)) C (Option.some.inj h) rfl hw dX10_burst_18
def wX10_spell (cB cI cZ : ClassId) (av : Nat → Nat) (a_this : Nat) (v_thrown : Int32) (v_size : Int32) (v_begins : Int32) (v_entries : Int32) (v_length : Int32) (v_pressed : Int32) (v_streamFrames : Int32) (v_zeros : Int32) (v_level : Int32) (v_sum : Int32) (v_tail : Int32) (v_isPlayed : Int32) (v_found : Int32) (v_strange : Int32) (v_innerFails : Int32) (v_outerFails : Int32) (v_mostMarks : Int32) (v_unsure : Int32) (v_may : Int32) (v_mocks : Int32) (v_sumThen : Int32) (v_words : Nat → Int32) : va_W := [oX10 a_this av v_thrown v_size v_begins v_entries v_length v_pressed v_streamFrames v_zeros v_level v_sum v_tail v_isPlayed v_found v_strange v_innerFails v_outerFails v_mostMarks v_unsure v_may v_mocks v_sumThen, ((av 1), .inl (cI, 256, .inl v_words))]
def fX10_spell (v_thrown : Int32) (v_words : Nat → Int32) (x1 : Int32) : Option (Int32 × Int32) := nt1 (fX10_in (Int32.toInt64 x1) 0 255) fun r_1 => if r_1 = 0 then some ((-1), 0) else og (ixb x1 256) (some ((v_words (Int32.toNatClampNeg x1)), 0))
set_option maxHeartbeats 4000000 in
set_option maxRecDepth 100000 in
theorem ct_X10_spell (l : Launch) (D : va_G) (cB cI cZ : ClassId) (tw : Nat) (av : Nat → Nat) (a_this : Nat) (v_thrown : Int32) (v_size : Int32) (v_begins : Int32) (v_entries : Int32) (v_length : Int32) (v_pressed : Int32) (v_streamFrames : Int32) (v_zeros : Int32) (v_level : Int32) (v_sum : Int32) (v_tail : Int32) (v_isPlayed : Int32) (v_found : Int32) (v_strange : Int32) (v_innerFails : Int32) (v_outerFails : Int32) (v_mostMarks : Int32) (v_unsure : Int32) (v_may : Int32) (v_mocks : Int32) (v_sumThen : Int32) (v_words : Nat → Int32) (x1 : Int32) (res : Int32 × Int32) (h : fX10_spell v_thrown v_words x1 = some res) : Ctr l yX10_spell cX10_spell 2 (some .int) (rmK 1 25) D (tyL cB cI cZ) tw [.ref a_this, .int x1] (wX10_spell cB cI cZ av a_this v_thrown v_size v_begins v_entries v_length v_pressed v_streamFrames v_zeros v_level v_sum v_tail v_isPlayed v_found v_strange v_innerFails v_outerFails v_mostMarks v_unsure v_may v_mocks v_sumThen v_words) (fun res : Int32 × Int32 => some (.int res.1)) (fun res : Int32 × Int32 => (wX10_spell cB cI cZ av a_this (res.2) v_size v_begins v_entries v_length v_pressed v_streamFrames v_zeros v_level v_sum v_tail v_isPlayed v_found v_strange v_innerFails v_outerFails v_mostMarks v_unsure v_may v_mocks v_sumThen v_words)) res := by
  refine ctr_of RX10 (by decide) rfl (Nat.le_of_ble_eq_true rfl) ?_
  intro p e s m below meth c A C hw ls hl
  have hx := C.1
  have hb := C.2.1
  have hl : lv_has ls 2 [(0, .ref a_this), (1, .int x1)] := hl
  unfold fX10_spell at h
  refine lv_aload_n (pc := 0) hx hb dX10_spell_0 rfl (lv_at hl 0 rfl) ?_
  refine lv_iconst (pc := 1) (v := 0) hx hb dX10_spell_1 (by decide) ?_
  refine pf_X10_100 (pc := 2) (wX10_spell cB cI cZ av a_this 0 v_size v_begins v_entries v_length v_pressed v_streamFrames v_zeros v_level v_sum v_tail v_isPlayed v_found v_strange v_innerFails v_outerFails v_mostMarks v_unsure v_may v_mocks v_sumThen v_words) C hw 0 rfl rfl rfl rfl (Nat.le_of_ble_eq_true rfl) dX10_spell_2 (fun H locs hw => ?_)
  refine lv_iload_n (pc := 5) hx hb dX10_spell_5 rfl (lv_at hl 1 rfl) ?_
  refine lv_i2l (pc := 6) hx hb dX10_spell_6 rfl ?_
  refine lv_lconst (pc := 7) (v := 0) hx hb dX10_spell_7 (by decide) ?_
  refine lv_ldc2 (pc := 8) (own := RX10) (v := 255) hx hb C.2.2.2.1 (C.2.2.2.2.1 _ tw_1528) dX10_spell_8 ?_
  obtain ⟨r_1, hq_2, h⟩ := nt1_at h
  refine x_callS (pc := 11) (rest := []) (stk := [.int r_1]) (wX10_spell cB cI cZ av a_this 0 v_size v_begins v_entries v_length v_pressed v_streamFrames v_zeros v_level v_sum v_tail v_isPlayed v_found v_strange v_innerFails v_outerFails v_mostMarks v_unsure v_may v_mocks v_sumThen v_words) C hw (ct_X10_in l D cB cI cZ tw av (Int32.toInt64 x1) 0 255 r_1 hq_2.symm) cal_X10_in tw_1176 [] [0, 1] 2 [oX10 a_this av 0 v_size v_begins v_entries v_length v_pressed v_streamFrames v_zeros v_level v_sum v_tail v_isPlayed v_found v_strange v_innerFails v_outerFails v_mostMarks v_unsure v_may v_mocks v_sumThen, ((av 1), .inl (cI, 256, .inl v_words))] rfl rfl rfl rfl rfl rfl rfl rfl rfl rfl rfl (Nat.le_of_ble_eq_true rfl) hl.1 ⟨Nat.le_of_ble_eq_true rfl, Nat.le_of_ble_eq_true rfl⟩ ⟨Nat.zero_le _, Nat.zero_le _⟩ dX10_spell_11 (fun H locs hw => ?_)
  refine lv_if_eq (pc := 14) (tgt := 26) hx hb dX10_spell_14 (by decide) (fun hc_3 => ?_) (fun hc_3 => ?_)
  · have h := ift hc_3 h
    refine lv_iconst (pc := 26) (v := (-1)) hx hb dX10_spell_26 (by decide) ?_
    exact x_iret (pc := 27) (v := ((-1), 0)) C (Option.some.inj h) rfl hw dX10_spell_27
  · have h := iff' hc_3 h
    refine lv_aload_n (pc := 17) hx hb dX10_spell_17 rfl (lv_at hl 0 rfl) ?_
    refine gf_X10_7 (pc := 18) C hw 0 rfl rfl dX10_spell_18 ?_
    refine lv_iload_n (pc := 21) hx hb dX10_spell_21 rfl (lv_at hl 1 rfl) ?_
    obtain ⟨hi_4, h⟩ := og_at h
    refine x_iald (pc := 22) C hw 1 rfl hi_4 dX10_spell_22 ?_
    refine lv_goto (pc := 23) (tgt := 27) hx hb dX10_spell_23 (by decide) ?_
    exact x_iret (pc := 27) (v := ((v_words (Int32.toNatClampNeg x1)), 0)) C (Option.some.inj h) rfl hw dX10_spell_27
def wX10_read (cB cI cZ : ClassId) (av : Nat → Nat) (a_this : Nat) (v_thrown : Int32) (v_size : Int32) (v_begins : Int32) (v_entries : Int32) (v_length : Int32) (v_pressed : Int32) (v_streamFrames : Int32) (v_zeros : Int32) (v_level : Int32) (v_sum : Int32) (v_tail : Int32) (v_isPlayed : Int32) (v_found : Int32) (v_strange : Int32) (v_innerFails : Int32) (v_outerFails : Int32) (v_mostMarks : Int32) (v_unsure : Int32) (v_may : Int32) (v_mocks : Int32) (v_sumThen : Int32) (v_bytesOf : Nat → Int32) : va_W := [oX10 a_this av v_thrown v_size v_begins v_entries v_length v_pressed v_streamFrames v_zeros v_level v_sum v_tail v_isPlayed v_found v_strange v_innerFails v_outerFails v_mostMarks v_unsure v_may v_mocks v_sumThen, ((av 2), .inl (cI, 16384, .inl v_bytesOf))]
def fX10_read (v_thrown : Int32) (v_bytesOf : Nat → Int32) (x1 : Int32) : Option (Int32 × Int32) := nt1 (fX10_in (Int32.toInt64 x1) 0 16383) fun r_1 => if r_1 = 0 then some ((-1), 0) else og (ixb x1 16384) (some ((v_bytesOf (Int32.toNatClampNeg x1)), 0))
set_option maxHeartbeats 4000000 in
set_option maxRecDepth 100000 in
theorem ct_X10_read (l : Launch) (D : va_G) (cB cI cZ : ClassId) (tw : Nat) (av : Nat → Nat) (a_this : Nat) (v_thrown : Int32) (v_size : Int32) (v_begins : Int32) (v_entries : Int32) (v_length : Int32) (v_pressed : Int32) (v_streamFrames : Int32) (v_zeros : Int32) (v_level : Int32) (v_sum : Int32) (v_tail : Int32) (v_isPlayed : Int32) (v_found : Int32) (v_strange : Int32) (v_innerFails : Int32) (v_outerFails : Int32) (v_mostMarks : Int32) (v_unsure : Int32) (v_may : Int32) (v_mocks : Int32) (v_sumThen : Int32) (v_bytesOf : Nat → Int32) (x1 : Int32) (res : Int32 × Int32) (h : fX10_read v_thrown v_bytesOf x1 = some res) : Ctr l yX10_read cX10_read 2 (some .int) (rmK 1 25) D (tyL cB cI cZ) tw [.ref a_this, .int x1] (wX10_read cB cI cZ av a_this v_thrown v_size v_begins v_entries v_length v_pressed v_streamFrames v_zeros v_level v_sum v_tail v_isPlayed v_found v_strange v_innerFails v_outerFails v_mostMarks v_unsure v_may v_mocks v_sumThen v_bytesOf) (fun res : Int32 × Int32 => some (.int res.1)) (fun res : Int32 × Int32 => (wX10_read cB cI cZ av a_this (res.2) v_size v_begins v_entries v_length v_pressed v_streamFrames v_zeros v_level v_sum v_tail v_isPlayed v_found v_strange v_innerFails v_outerFails v_mostMarks v_unsure v_may v_mocks v_sumThen v_bytesOf)) res := by
  refine ctr_of RX10 (by decide) rfl (Nat.le_of_ble_eq_true rfl) ?_
  intro p e s m below meth c A C hw ls hl
  have hx := C.1
  have hb := C.2.1
  have hl : lv_has ls 2 [(0, .ref a_this), (1, .int x1)] := hl
  unfold fX10_read at h
  refine lv_aload_n (pc := 0) hx hb dX10_read_0 rfl (lv_at hl 0 rfl) ?_
  refine lv_iconst (pc := 1) (v := 0) hx hb dX10_read_1 (by decide) ?_
  refine pf_X10_100 (pc := 2) (wX10_read cB cI cZ av a_this 0 v_size v_begins v_entries v_length v_pressed v_streamFrames v_zeros v_level v_sum v_tail v_isPlayed v_found v_strange v_innerFails v_outerFails v_mostMarks v_unsure v_may v_mocks v_sumThen v_bytesOf) C hw 0 rfl rfl rfl rfl (Nat.le_of_ble_eq_true rfl) dX10_read_2 (fun H locs hw => ?_)
  refine lv_iload_n (pc := 5) hx hb dX10_read_5 rfl (lv_at hl 1 rfl) ?_
  refine lv_i2l (pc := 6) hx hb dX10_read_6 rfl ?_
  refine lv_lconst (pc := 7) (v := 0) hx hb dX10_read_7 (by decide) ?_
  refine lv_ldc2 (pc := 8) (own := RX10) (v := 16383) hx hb C.2.2.2.1 (C.2.2.2.2.1 _ tw_1533) dX10_read_8 ?_
  obtain ⟨r_1, hq_2, h⟩ := nt1_at h
  refine x_callS (pc := 11) (rest := []) (stk := [.int r_1]) (wX10_read cB cI cZ av a_this 0 v_size v_begins v_entries v_length v_pressed v_streamFrames v_zeros v_level v_sum v_tail v_isPlayed v_found v_strange v_innerFails v_outerFails v_mostMarks v_unsure v_may v_mocks v_sumThen v_bytesOf) C hw (ct_X10_in l D cB cI cZ tw av (Int32.toInt64 x1) 0 16383 r_1 hq_2.symm) cal_X10_in tw_1176 [] [0, 1] 2 [oX10 a_this av 0 v_size v_begins v_entries v_length v_pressed v_streamFrames v_zeros v_level v_sum v_tail v_isPlayed v_found v_strange v_innerFails v_outerFails v_mostMarks v_unsure v_may v_mocks v_sumThen, ((av 2), .inl (cI, 16384, .inl v_bytesOf))] rfl rfl rfl rfl rfl rfl rfl rfl rfl rfl rfl (Nat.le_of_ble_eq_true rfl) hl.1 ⟨Nat.le_of_ble_eq_true rfl, Nat.le_of_ble_eq_true rfl⟩ ⟨Nat.zero_le _, Nat.zero_le _⟩ dX10_read_11 (fun H locs hw => ?_)
  refine lv_if_eq (pc := 14) (tgt := 26) hx hb dX10_read_14 (by decide) (fun hc_3 => ?_) (fun hc_3 => ?_)
  · have h := ift hc_3 h
    refine lv_iconst (pc := 26) (v := (-1)) hx hb dX10_read_26 (by decide) ?_
    exact x_iret (pc := 27) (v := ((-1), 0)) C (Option.some.inj h) rfl hw dX10_read_27
  · have h := iff' hc_3 h
    refine lv_aload_n (pc := 17) hx hb dX10_read_17 rfl (lv_at hl 0 rfl) ?_
    refine gf_X10_13 (pc := 18) C hw 0 rfl rfl dX10_read_18 ?_
    refine lv_iload_n (pc := 21) hx hb dX10_read_21 rfl (lv_at hl 1 rfl) ?_
    obtain ⟨hi_4, h⟩ := og_at h
    refine x_iald (pc := 22) C hw 1 rfl hi_4 dX10_read_22 ?_
    refine lv_goto (pc := 23) (tgt := 27) hx hb dX10_read_23 (by decide) ?_
    exact x_iret (pc := 27) (v := ((v_bytesOf (Int32.toNatClampNeg x1)), 0)) C (Option.some.inj h) rfl hw dX10_read_27
def wX10_put (cB cI cZ : ClassId) (av : Nat → Nat) (a_this : Nat) (v_thrown : Int32) (v_size : Int32) (v_begins : Int32) (v_entries : Int32) (v_length : Int32) (v_pressed : Int32) (v_streamFrames : Int32) (v_zeros : Int32) (v_level : Int32) (v_sum : Int32) (v_tail : Int32) (v_isPlayed : Int32) (v_found : Int32) (v_strange : Int32) (v_innerFails : Int32) (v_outerFails : Int32) (v_mostMarks : Int32) (v_unsure : Int32) (v_may : Int32) (v_mocks : Int32) (v_sumThen : Int32) (v_bench : Nat → Int32) (v_benchMarks : Nat → Int32) : va_W := [oX10 a_this av v_thrown v_size v_begins v_entries v_length v_pressed v_streamFrames v_zeros v_level v_sum v_tail v_isPlayed v_found v_strange v_innerFails v_outerFails v_mostMarks v_unsure v_may v_mocks v_sumThen, ((av 45), .inl (cI, 32, .inl v_bench)), ((av 46), .inl (cZ, 32, .inl v_benchMarks))]
def fX10_put (v_thrown : Int32) (v_bench : Nat → Int32) (v_benchMarks : Nat → Int32) (x1 : Int32) (x2 : Int32) : Option (Int32 × Int32 × (Nat → Int32) × (Nat → Int32)) := nt1 (fX10_in (Int32.toInt64 x1) 0 31) fun r_1 => if r_1 = 0 then some ((-1), 0, v_bench, v_benchMarks) else nt1 (fX10_in (Int32.toInt64 x2) 0 255) fun r_4 => if r_4 = 0 then some ((-1), 0, v_bench, v_benchMarks) else og (ixb x1 32) (nm ((v_bench (Int32.toNatClampNeg x1)) : Int32) fun x3_8 => og (ixb x1 32) (nm (upd v_bench (Int32.toNatClampNeg x1) x2) fun v_bench_10 => og (ixb x1 32) (nm (upd v_benchMarks (Int32.toNatClampNeg x1) (vp_nar .boolean 0)) fun v_benchMarks_12 => some (x3_8, 0, v_bench_10, v_benchMarks_12))))
set_option maxHeartbeats 4000000 in
set_option maxRecDepth 100000 in
theorem ct_X10_put (l : Launch) (D : va_G) (cB cI cZ : ClassId) (tw : Nat) (av : Nat → Nat) (a_this : Nat) (v_thrown : Int32) (v_size : Int32) (v_begins : Int32) (v_entries : Int32) (v_length : Int32) (v_pressed : Int32) (v_streamFrames : Int32) (v_zeros : Int32) (v_level : Int32) (v_sum : Int32) (v_tail : Int32) (v_isPlayed : Int32) (v_found : Int32) (v_strange : Int32) (v_innerFails : Int32) (v_outerFails : Int32) (v_mostMarks : Int32) (v_unsure : Int32) (v_may : Int32) (v_mocks : Int32) (v_sumThen : Int32) (v_bench : Nat → Int32) (v_benchMarks : Nat → Int32) (x1 : Int32) (x2 : Int32) (res : Int32 × Int32 × (Nat → Int32) × (Nat → Int32)) (h : fX10_put v_thrown v_bench v_benchMarks x1 x2 = some res) : Ctr l yX10_put cX10_put 4 (some .int) (rmK 1 25) D (tyL cB cI cZ) tw [.ref a_this, .int x1, .int x2] (wX10_put cB cI cZ av a_this v_thrown v_size v_begins v_entries v_length v_pressed v_streamFrames v_zeros v_level v_sum v_tail v_isPlayed v_found v_strange v_innerFails v_outerFails v_mostMarks v_unsure v_may v_mocks v_sumThen v_bench v_benchMarks) (fun res : Int32 × Int32 × (Nat → Int32) × (Nat → Int32) => some (.int res.1)) (fun res : Int32 × Int32 × (Nat → Int32) × (Nat → Int32) => (wX10_put cB cI cZ av a_this (res.2.1) v_size v_begins v_entries v_length v_pressed v_streamFrames v_zeros v_level v_sum v_tail v_isPlayed v_found v_strange v_innerFails v_outerFails v_mostMarks v_unsure v_may v_mocks v_sumThen (res.2.2.1) (res.2.2.2))) res := by
  refine ctr_of RX10 (by decide) rfl (Nat.le_of_ble_eq_true rfl) ?_
  intro p e s m below meth c A C hw ls hl
  have hx := C.1
  have hb := C.2.1
  have hl : lv_has ls 4 [(0, .ref a_this), (1, .int x1), (2, .int x2)] := hl
  unfold fX10_put at h
  refine lv_aload_n (pc := 0) hx hb dX10_put_0 rfl (lv_at hl 0 rfl) ?_
  refine lv_iconst (pc := 1) (v := 0) hx hb dX10_put_1 (by decide) ?_
  refine pf_X10_100 (pc := 2) (wX10_put cB cI cZ av a_this 0 v_size v_begins v_entries v_length v_pressed v_streamFrames v_zeros v_level v_sum v_tail v_isPlayed v_found v_strange v_innerFails v_outerFails v_mostMarks v_unsure v_may v_mocks v_sumThen v_bench v_benchMarks) C hw 0 rfl rfl rfl rfl (Nat.le_of_ble_eq_true rfl) dX10_put_2 (fun H locs hw => ?_)
  refine lv_iload_n (pc := 5) hx hb dX10_put_5 rfl (lv_at hl 1 rfl) ?_
  refine lv_i2l (pc := 6) hx hb dX10_put_6 rfl ?_
  refine lv_lconst (pc := 7) (v := 0) hx hb dX10_put_7 (by decide) ?_
  refine lv_ldc2 (pc := 8) (own := RX10) (v := 31) hx hb C.2.2.2.1 (C.2.2.2.2.1 _ tw_1538) dX10_put_8 ?_
  obtain ⟨r_1, hq_2, h⟩ := nt1_at h
  refine x_callS (pc := 11) (rest := []) (stk := [.int r_1]) (wX10_put cB cI cZ av a_this 0 v_size v_begins v_entries v_length v_pressed v_streamFrames v_zeros v_level v_sum v_tail v_isPlayed v_found v_strange v_innerFails v_outerFails v_mostMarks v_unsure v_may v_mocks v_sumThen v_bench v_benchMarks) C hw (ct_X10_in l D cB cI cZ tw av (Int32.toInt64 x1) 0 31 r_1 hq_2.symm) cal_X10_in tw_1176 [] [0, 1, 2] 3 [oX10 a_this av 0 v_size v_begins v_entries v_length v_pressed v_streamFrames v_zeros v_level v_sum v_tail v_isPlayed v_found v_strange v_innerFails v_outerFails v_mostMarks v_unsure v_may v_mocks v_sumThen, ((av 45), .inl (cI, 32, .inl v_bench)), ((av 46), .inl (cZ, 32, .inl v_benchMarks))] rfl rfl rfl rfl rfl rfl rfl rfl rfl rfl rfl (Nat.le_of_ble_eq_true rfl) hl.1 ⟨Nat.le_of_ble_eq_true rfl, Nat.le_of_ble_eq_true rfl⟩ ⟨Nat.zero_le _, Nat.zero_le _⟩ dX10_put_11 (fun H locs hw => ?_)
  refine lv_if_eq (pc := 14) (tgt := 29) hx hb dX10_put_14 (by decide) (fun hc_3 => ?_) (fun hc_3 => ?_)
  · have h := ift hc_3 h
    refine lv_iconst (pc := 29) (v := (-1)) hx hb dX10_put_29 (by decide) ?_
    exact x_iret (pc := 30) (v := ((-1), 0, v_bench, v_benchMarks)) C (Option.some.inj h) rfl hw dX10_put_30
  · have h := iff' hc_3 h
    refine lv_iload_n (pc := 17) hx hb dX10_put_17 rfl (lv_at hl 2 rfl) ?_
    refine lv_i2l (pc := 18) hx hb dX10_put_18 rfl ?_
    refine lv_lconst (pc := 19) (v := 0) hx hb dX10_put_19 (by decide) ?_
    refine lv_ldc2 (pc := 20) (own := RX10) (v := 255) hx hb C.2.2.2.1 (C.2.2.2.2.1 _ tw_1528) dX10_put_20 ?_
    obtain ⟨r_4, hq_5, h⟩ := nt1_at h
    refine x_callS (pc := 23) (rest := []) (stk := [.int r_4]) (wX10_put cB cI cZ av a_this 0 v_size v_begins v_entries v_length v_pressed v_streamFrames v_zeros v_level v_sum v_tail v_isPlayed v_found v_strange v_innerFails v_outerFails v_mostMarks v_unsure v_may v_mocks v_sumThen v_bench v_benchMarks) C hw (ct_X10_in l D cB cI cZ tw av (Int32.toInt64 x2) 0 255 r_4 hq_5.symm) cal_X10_in tw_1176 [] [0, 1, 2] 3 [oX10 a_this av 0 v_size v_begins v_entries v_length v_pressed v_streamFrames v_zeros v_level v_sum v_tail v_isPlayed v_found v_strange v_innerFails v_outerFails v_mostMarks v_unsure v_may v_mocks v_sumThen, ((av 45), .inl (cI, 32, .inl v_bench)), ((av 46), .inl (cZ, 32, .inl v_benchMarks))] rfl rfl rfl rfl rfl rfl rfl rfl rfl rfl rfl (Nat.le_of_ble_eq_true rfl) hl.1 ⟨Nat.le_of_ble_eq_true rfl, Nat.le_of_ble_eq_true rfl⟩ ⟨Nat.zero_le _, Nat.zero_le _⟩ dX10_put_23 (fun H locs hw => ?_)
    refine lv_if_ne (pc := 26) (tgt := 31) hx hb dX10_put_26 (by decide) (fun hc_6 => ?_) (fun hc_6 => ?_)
    · have h := iff' hc_6 h
      refine lv_aload_n (pc := 31) hx hb dX10_put_31 rfl (lv_at hl 0 rfl) ?_
      refine gf_X10_94 (pc := 32) C hw 0 rfl rfl dX10_put_32 ?_
      refine lv_iload_n (pc := 35) hx hb dX10_put_35 rfl (lv_at hl 1 rfl) ?_
      obtain ⟨hi_7, h⟩ := og_at h
      refine x_iald (pc := 36) C hw 1 rfl hi_7 dX10_put_36 ?_
      refine lv_topi (pc := 37) (fun x3_8 ex3_8 => ?_)
      have h := nm_at ex3_8 h
      refine lv_istore_n (pc := 37) (lv' := [(3, .int x3_8), (0, .ref a_this), (1, .int x1), (2, .int x2)]) hx hb dX10_put_37 rfl hl (by decide) rfl (fun ls hl => ?_)
      refine lv_aload_n (pc := 38) hx hb dX10_put_38 rfl (lv_at hl 1 rfl) ?_
      refine gf_X10_94 (pc := 39) C hw 0 rfl rfl dX10_put_39 ?_
      refine lv_iload_n (pc := 42) hx hb dX10_put_42 rfl (lv_at hl 2 rfl) ?_
      refine lv_iload_n (pc := 43) hx hb dX10_put_43 rfl (lv_at hl 3 rfl) ?_
      obtain ⟨hi_9, h⟩ := og_at h
      obtain ⟨v_bench_10, ev_bench_10⟩ : ∃ y : Nat → Int32, y = upd v_bench (Int32.toNatClampNeg x1) x2 := ⟨_, rfl⟩
      have h := nm_at ev_bench_10 h
      refine x_iast (pc := 44) (wX10_put cB cI cZ av a_this 0 v_size v_begins v_entries v_length v_pressed v_streamFrames v_zeros v_level v_sum v_tail v_isPlayed v_found v_strange v_innerFails v_outerFails v_mostMarks v_unsure v_may v_mocks v_sumThen v_bench_10 v_benchMarks) C hw 1 rfl hi_9 (by rw [ev_bench_10]; rfl) dX10_put_44 (fun H locs hw => ?_)
      refine lv_aload_n (pc := 45) hx hb dX10_put_45 rfl (lv_at hl 1 rfl) ?_
      refine gf_X10_97 (pc := 46) C hw 0 rfl rfl dX10_put_46 ?_
      refine lv_iload_n (pc := 49) hx hb dX10_put_49 rfl (lv_at hl 2 rfl) ?_
      refine lv_iconst (pc := 50) (v := 0) hx hb dX10_put_50 (by decide) ?_
      obtain ⟨hi_11, h⟩ := og_at h
      obtain ⟨v_benchMarks_12, ev_benchMarks_12⟩ : ∃ y : Nat → Int32, y = upd v_benchMarks (Int32.toNatClampNeg x1) (vp_nar .boolean 0) := ⟨_, rfl⟩
      have h := nm_at ev_benchMarks_12 h
      refine x_zast (pc := 51) (wX10_put cB cI cZ av a_this 0 v_size v_begins v_entries v_length v_pressed v_streamFrames v_zeros v_level v_sum v_tail v_isPlayed v_found v_strange v_innerFails v_outerFails v_mostMarks v_unsure v_may v_mocks v_sumThen v_bench_10 v_benchMarks_12) C hw 2 rfl hi_11 (by rw [ev_benchMarks_12]; rfl) dX10_put_51 (fun H locs hw => ?_)
      refine lv_iload_n (pc := 52) hx hb dX10_put_52 rfl (lv_at hl 0 rfl) ?_
      exact x_iret (pc := 53) (v := (x3_8, 0, v_bench_10, v_benchMarks_12)) C (Option.some.inj h) rfl hw dX10_put_53
    · have h := ift hc_6 h
      refine lv_iconst (pc := 29) (v := (-1)) hx hb dX10_put_29 (by decide) ?_
      exact x_iret (pc := 30) (v := ((-1), 0, v_bench, v_benchMarks)) C (Option.some.inj h) rfl hw dX10_put_30
def wX10_mark (cB cI cZ : ClassId) (av : Nat → Nat) (a_this : Nat) (v_thrown : Int32) (v_size : Int32) (v_begins : Int32) (v_entries : Int32) (v_length : Int32) (v_pressed : Int32) (v_streamFrames : Int32) (v_zeros : Int32) (v_level : Int32) (v_sum : Int32) (v_tail : Int32) (v_isPlayed : Int32) (v_found : Int32) (v_strange : Int32) (v_innerFails : Int32) (v_outerFails : Int32) (v_mostMarks : Int32) (v_unsure : Int32) (v_may : Int32) (v_mocks : Int32) (v_sumThen : Int32) (v_benchMarks : Nat → Int32) : va_W := [oX10 a_this av v_thrown v_size v_begins v_entries v_length v_pressed v_streamFrames v_zeros v_level v_sum v_tail v_isPlayed v_found v_strange v_innerFails v_outerFails v_mostMarks v_unsure v_may v_mocks v_sumThen, ((av 46), .inl (cZ, 32, .inl v_benchMarks))]
def fX10_mark (v_thrown : Int32) (v_benchMarks : Nat → Int32) (x1 : Int32) (x2 : Int32) : Option (Int32 × Int32 × (Nat → Int32)) := nt1 (fX10_in (Int32.toInt64 x1) 0 31) fun r_1 => if r_1 = 0 then some (0, 0, v_benchMarks) else og (ixb x1 32) (nm ((v_benchMarks (Int32.toNatClampNeg x1)) : Int32) fun x3_5 => og (ixb x1 32) (nm (upd v_benchMarks (Int32.toNatClampNeg x1) (vp_nar .boolean x2)) fun v_benchMarks_7 => og (zb x3_5) (some (x3_5, 0, v_benchMarks_7))))
set_option maxHeartbeats 4000000 in
set_option maxRecDepth 100000 in
theorem ct_X10_mark (l : Launch) (D : va_G) (cB cI cZ : ClassId) (tw : Nat) (av : Nat → Nat) (a_this : Nat) (v_thrown : Int32) (v_size : Int32) (v_begins : Int32) (v_entries : Int32) (v_length : Int32) (v_pressed : Int32) (v_streamFrames : Int32) (v_zeros : Int32) (v_level : Int32) (v_sum : Int32) (v_tail : Int32) (v_isPlayed : Int32) (v_found : Int32) (v_strange : Int32) (v_innerFails : Int32) (v_outerFails : Int32) (v_mostMarks : Int32) (v_unsure : Int32) (v_may : Int32) (v_mocks : Int32) (v_sumThen : Int32) (v_benchMarks : Nat → Int32) (x1 : Int32) (x2 : Int32) (res : Int32 × Int32 × (Nat → Int32)) (h : fX10_mark v_thrown v_benchMarks x1 x2 = some res) : Ctr l yX10_mark cX10_mark 4 (some .boolean) (rmK 1 25) D (tyL cB cI cZ) tw [.ref a_this, .int x1, .int x2] (wX10_mark cB cI cZ av a_this v_thrown v_size v_begins v_entries v_length v_pressed v_streamFrames v_zeros v_level v_sum v_tail v_isPlayed v_found v_strange v_innerFails v_outerFails v_mostMarks v_unsure v_may v_mocks v_sumThen v_benchMarks) (fun res : Int32 × Int32 × (Nat → Int32) => some (.int res.1)) (fun res : Int32 × Int32 × (Nat → Int32) => (wX10_mark cB cI cZ av a_this (res.2.1) v_size v_begins v_entries v_length v_pressed v_streamFrames v_zeros v_level v_sum v_tail v_isPlayed v_found v_strange v_innerFails v_outerFails v_mostMarks v_unsure v_may v_mocks v_sumThen (res.2.2))) res := by
  refine ctr_of RX10 (by decide) rfl (Nat.le_of_ble_eq_true rfl) ?_
  intro p e s m below meth c A C hw ls hl
  have hx := C.1
  have hb := C.2.1
  have hl : lv_has ls 4 [(0, .ref a_this), (1, .int x1), (2, .int x2)] := hl
  unfold fX10_mark at h
  refine lv_aload_n (pc := 0) hx hb dX10_mark_0 rfl (lv_at hl 0 rfl) ?_
  refine lv_iconst (pc := 1) (v := 0) hx hb dX10_mark_1 (by decide) ?_
  refine pf_X10_100 (pc := 2) (wX10_mark cB cI cZ av a_this 0 v_size v_begins v_entries v_length v_pressed v_streamFrames v_zeros v_level v_sum v_tail v_isPlayed v_found v_strange v_innerFails v_outerFails v_mostMarks v_unsure v_may v_mocks v_sumThen v_benchMarks) C hw 0 rfl rfl rfl rfl (Nat.le_of_ble_eq_true rfl) dX10_mark_2 (fun H locs hw => ?_)
  refine lv_iload_n (pc := 5) hx hb dX10_mark_5 rfl (lv_at hl 1 rfl) ?_
  refine lv_i2l (pc := 6) hx hb dX10_mark_6 rfl ?_
  refine lv_lconst (pc := 7) (v := 0) hx hb dX10_mark_7 (by decide) ?_
  refine lv_ldc2 (pc := 8) (own := RX10) (v := 31) hx hb C.2.2.2.1 (C.2.2.2.2.1 _ tw_1538) dX10_mark_8 ?_
  obtain ⟨r_1, hq_2, h⟩ := nt1_at h
  refine x_callS (pc := 11) (rest := []) (stk := [.int r_1]) (wX10_mark cB cI cZ av a_this 0 v_size v_begins v_entries v_length v_pressed v_streamFrames v_zeros v_level v_sum v_tail v_isPlayed v_found v_strange v_innerFails v_outerFails v_mostMarks v_unsure v_may v_mocks v_sumThen v_benchMarks) C hw (ct_X10_in l D cB cI cZ tw av (Int32.toInt64 x1) 0 31 r_1 hq_2.symm) cal_X10_in tw_1176 [] [0, 1] 2 [oX10 a_this av 0 v_size v_begins v_entries v_length v_pressed v_streamFrames v_zeros v_level v_sum v_tail v_isPlayed v_found v_strange v_innerFails v_outerFails v_mostMarks v_unsure v_may v_mocks v_sumThen, ((av 46), .inl (cZ, 32, .inl v_benchMarks))] rfl rfl rfl rfl rfl rfl rfl rfl rfl rfl rfl (Nat.le_of_ble_eq_true rfl) hl.1 ⟨Nat.le_of_ble_eq_true rfl, Nat.le_of_ble_eq_true rfl⟩ ⟨Nat.zero_le _, Nat.zero_le _⟩ dX10_mark_11 (fun H locs hw => ?_)
  refine lv_if_ne (pc := 14) (tgt := 19) hx hb dX10_mark_14 (by decide) (fun hc_3 => ?_) (fun hc_3 => ?_)
  · have h := iff' hc_3 h
    refine lv_aload_n (pc := 19) hx hb dX10_mark_19 rfl (lv_at hl 0 rfl) ?_
    refine gf_X10_97 (pc := 20) C hw 0 rfl rfl dX10_mark_20 ?_
    refine lv_iload_n (pc := 23) hx hb dX10_mark_23 rfl (lv_at hl 1 rfl) ?_
    obtain ⟨hi_4, h⟩ := og_at h
    refine x_zald (pc := 24) C hw 1 rfl hi_4 dX10_mark_24 ?_
    refine lv_topi (pc := 25) (fun x3_5 ex3_5 => ?_)
    have h := nm_at ex3_5 h
    refine lv_istore_n (pc := 25) (lv' := [(3, .int x3_5), (0, .ref a_this), (1, .int x1), (2, .int x2)]) hx hb dX10_mark_25 rfl hl (by decide) rfl (fun ls hl => ?_)
    refine lv_aload_n (pc := 26) hx hb dX10_mark_26 rfl (lv_at hl 1 rfl) ?_
    refine gf_X10_97 (pc := 27) C hw 0 rfl rfl dX10_mark_27 ?_
    refine lv_iload_n (pc := 30) hx hb dX10_mark_30 rfl (lv_at hl 2 rfl) ?_
    refine lv_iload_n (pc := 31) hx hb dX10_mark_31 rfl (lv_at hl 3 rfl) ?_
    obtain ⟨hi_6, h⟩ := og_at h
    obtain ⟨v_benchMarks_7, ev_benchMarks_7⟩ : ∃ y : Nat → Int32, y = upd v_benchMarks (Int32.toNatClampNeg x1) (vp_nar .boolean x2) := ⟨_, rfl⟩
    have h := nm_at ev_benchMarks_7 h
    refine x_zast (pc := 32) (wX10_mark cB cI cZ av a_this 0 v_size v_begins v_entries v_length v_pressed v_streamFrames v_zeros v_level v_sum v_tail v_isPlayed v_found v_strange v_innerFails v_outerFails v_mostMarks v_unsure v_may v_mocks v_sumThen v_benchMarks_7) C hw 1 rfl hi_6 (by rw [ev_benchMarks_7]; rfl) dX10_mark_32 (fun H locs hw => ?_)
    refine lv_iload_n (pc := 33) hx hb dX10_mark_33 rfl (lv_at hl 0 rfl) ?_
    obtain ⟨hz_8, h⟩ := og_at h
    exact x_zret (pc := 34) (v := (x3_5, 0, v_benchMarks_7)) C (Option.some.inj h) hz_8 rfl hw dX10_mark_34
  · have h := ift hc_3 h
    refine lv_iconst (pc := 17) (v := 0) hx hb dX10_mark_17 (by decide) ?_
    exact x_zret (pc := 18) (v := (0, 0, v_benchMarks)) C (Option.some.inj h) rfl rfl hw dX10_mark_18
def wX10_at (cB cI cZ : ClassId) (av : Nat → Nat) (a_this : Nat) (v_thrown : Int32) (v_size : Int32) (v_begins : Int32) (v_entries : Int32) (v_length : Int32) (v_pressed : Int32) (v_streamFrames : Int32) (v_zeros : Int32) (v_level : Int32) (v_sum : Int32) (v_tail : Int32) (v_isPlayed : Int32) (v_found : Int32) (v_strange : Int32) (v_innerFails : Int32) (v_outerFails : Int32) (v_mostMarks : Int32) (v_unsure : Int32) (v_may : Int32) (v_mocks : Int32) (v_sumThen : Int32) (v_bench : Nat → Int32) : va_W := [oX10 a_this av v_thrown v_size v_begins v_entries v_length v_pressed v_streamFrames v_zeros v_level v_sum v_tail v_isPlayed v_found v_strange v_innerFails v_outerFails v_mostMarks v_unsure v_may v_mocks v_sumThen, ((av 45), .inl (cI, 32, .inl v_bench))]
def fX10_at (v_thrown : Int32) (v_bench : Nat → Int32) (x1 : Int32) : Option (Int32 × Int32) := nt1 (fX10_in (Int32.toInt64 x1) 0 31) fun r_1 => if r_1 = 0 then some ((-1), 0) else og (ixb x1 32) (some ((v_bench (Int32.toNatClampNeg x1)), 0))
set_option maxHeartbeats 4000000 in
set_option maxRecDepth 100000 in
theorem ct_X10_at (l : Launch) (D : va_G) (cB cI cZ : ClassId) (tw : Nat) (av : Nat → Nat) (a_this : Nat) (v_thrown : Int32) (v_size : Int32) (v_begins : Int32) (v_entries : Int32) (v_length : Int32) (v_pressed : Int32) (v_streamFrames : Int32) (v_zeros : Int32) (v_level : Int32) (v_sum : Int32) (v_tail : Int32) (v_isPlayed : Int32) (v_found : Int32) (v_strange : Int32) (v_innerFails : Int32) (v_outerFails : Int32) (v_mostMarks : Int32) (v_unsure : Int32) (v_may : Int32) (v_mocks : Int32) (v_sumThen : Int32) (v_bench : Nat → Int32) (x1 : Int32) (res : Int32 × Int32) (h : fX10_at v_thrown v_bench x1 = some res) : Ctr l yX10_at cX10_at 2 (some .int) (rmK 1 25) D (tyL cB cI cZ) tw [.ref a_this, .int x1] (wX10_at cB cI cZ av a_this v_thrown v_size v_begins v_entries v_length v_pressed v_streamFrames v_zeros v_level v_sum v_tail v_isPlayed v_found v_strange v_innerFails v_outerFails v_mostMarks v_unsure v_may v_mocks v_sumThen v_bench) (fun res : Int32 × Int32 => some (.int res.1)) (fun res : Int32 × Int32 => (wX10_at cB cI cZ av a_this (res.2) v_size v_begins v_entries v_length v_pressed v_streamFrames v_zeros v_level v_sum v_tail v_isPlayed v_found v_strange v_innerFails v_outerFails v_mostMarks v_unsure v_may v_mocks v_sumThen v_bench)) res := by
  refine ctr_of RX10 (by decide) rfl (Nat.le_of_ble_eq_true rfl) ?_
  intro p e s m below meth c A C hw ls hl
  have hx := C.1
  have hb := C.2.1
  have hl : lv_has ls 2 [(0, .ref a_this), (1, .int x1)] := hl
  unfold fX10_at at h
  refine lv_aload_n (pc := 0) hx hb dX10_at_0 rfl (lv_at hl 0 rfl) ?_
  refine lv_iconst (pc := 1) (v := 0) hx hb dX10_at_1 (by decide) ?_
  refine pf_X10_100 (pc := 2) (wX10_at cB cI cZ av a_this 0 v_size v_begins v_entries v_length v_pressed v_streamFrames v_zeros v_level v_sum v_tail v_isPlayed v_found v_strange v_innerFails v_outerFails v_mostMarks v_unsure v_may v_mocks v_sumThen v_bench) C hw 0 rfl rfl rfl rfl (Nat.le_of_ble_eq_true rfl) dX10_at_2 (fun H locs hw => ?_)
  refine lv_iload_n (pc := 5) hx hb dX10_at_5 rfl (lv_at hl 1 rfl) ?_
  refine lv_i2l (pc := 6) hx hb dX10_at_6 rfl ?_
  refine lv_lconst (pc := 7) (v := 0) hx hb dX10_at_7 (by decide) ?_
  refine lv_ldc2 (pc := 8) (own := RX10) (v := 31) hx hb C.2.2.2.1 (C.2.2.2.2.1 _ tw_1538) dX10_at_8 ?_
  obtain ⟨r_1, hq_2, h⟩ := nt1_at h
  refine x_callS (pc := 11) (rest := []) (stk := [.int r_1]) (wX10_at cB cI cZ av a_this 0 v_size v_begins v_entries v_length v_pressed v_streamFrames v_zeros v_level v_sum v_tail v_isPlayed v_found v_strange v_innerFails v_outerFails v_mostMarks v_unsure v_may v_mocks v_sumThen v_bench) C hw (ct_X10_in l D cB cI cZ tw av (Int32.toInt64 x1) 0 31 r_1 hq_2.symm) cal_X10_in tw_1176 [] [0, 1] 2 [oX10 a_this av 0 v_size v_begins v_entries v_length v_pressed v_streamFrames v_zeros v_level v_sum v_tail v_isPlayed v_found v_strange v_innerFails v_outerFails v_mostMarks v_unsure v_may v_mocks v_sumThen, ((av 45), .inl (cI, 32, .inl v_bench))] rfl rfl rfl rfl rfl rfl rfl rfl rfl rfl rfl (Nat.le_of_ble_eq_true rfl) hl.1 ⟨Nat.le_of_ble_eq_true rfl, Nat.le_of_ble_eq_true rfl⟩ ⟨Nat.zero_le _, Nat.zero_le _⟩ dX10_at_11 (fun H locs hw => ?_)
  refine lv_if_eq (pc := 14) (tgt := 26) hx hb dX10_at_14 (by decide) (fun hc_3 => ?_) (fun hc_3 => ?_)
  · have h := ift hc_3 h
    refine lv_iconst (pc := 26) (v := (-1)) hx hb dX10_at_26 (by decide) ?_
    exact x_iret (pc := 27) (v := ((-1), 0)) C (Option.some.inj h) rfl hw dX10_at_27
  · have h := iff' hc_3 h
    refine lv_aload_n (pc := 17) hx hb dX10_at_17 rfl (lv_at hl 0 rfl) ?_
    refine gf_X10_94 (pc := 18) C hw 0 rfl rfl dX10_at_18 ?_
    refine lv_iload_n (pc := 21) hx hb dX10_at_21 rfl (lv_at hl 1 rfl) ?_
    obtain ⟨hi_4, h⟩ := og_at h
    refine x_iald (pc := 22) C hw 1 rfl hi_4 dX10_at_22 ?_
    refine lv_goto (pc := 23) (tgt := 27) hx hb dX10_at_23 (by decide) ?_
    exact x_iret (pc := 27) (v := ((v_bench (Int32.toNatClampNeg x1)), 0)) C (Option.some.inj h) rfl hw dX10_at_27
def wX10_toBench (cB cI cZ : ClassId) (av : Nat → Nat) (a_this : Nat) (v_thrown : Int32) (v_size : Int32) (v_begins : Int32) (v_entries : Int32) (v_length : Int32) (v_pressed : Int32) (v_streamFrames : Int32) (v_zeros : Int32) (v_level : Int32) (v_sum : Int32) (v_tail : Int32) (v_isPlayed : Int32) (v_found : Int32) (v_strange : Int32) (v_innerFails : Int32) (v_outerFails : Int32) (v_mostMarks : Int32) (v_unsure : Int32) (v_may : Int32) (v_mocks : Int32) (v_sumThen : Int32) (v_bench : Nat → Int32) (v_benchMarks : Nat → Int32) (v_word : Nat → Int32) : va_W := [oX10 a_this av v_thrown v_size v_begins v_entries v_length v_pressed v_streamFrames v_zeros v_level v_sum v_tail v_isPlayed v_found v_strange v_innerFails v_outerFails v_mostMarks v_unsure v_may v_mocks v_sumThen, ((av 45), .inl (cI, 32, .inl v_bench)), ((av 46), .inl (cZ, 32, .inl v_benchMarks)), ((av 22), .inl (cI, 32, .inl v_word))]
def fX10_toBench_L2 (x1 : Int32) (v_word : Nat → Int32) : Nat → Int32 → (Nat → Int32) → (Nat → Int32) → Option ((Nat → Int32) × (Nat → Int32))
  | 0, _, _, _ => none
  | F2_4 + 1, x2_1, v_bench_2, v_benchMarks_3 => if x1 ≤ x2_1 then some (v_bench_2, v_benchMarks_3) else og (ixb x2_1 32) (og (ixb x2_1 32) (nm (upd v_bench_2 (Int32.toNatClampNeg x2_1) (v_word (Int32.toNatClampNeg x2_1))) fun v_bench_8 => og (ixb x2_1 32) (nm (upd v_benchMarks_3 (Int32.toNatClampNeg x2_1) (vp_nar .boolean 0)) fun v_benchMarks_10 => nm (x2_1 + 1 : Int32) fun x2_11 => fX10_toBench_L2 x1 v_word F2_4 x2_11 v_bench_8 v_benchMarks_10)))
def fX10_toBench (v_bench : Nat → Int32) (v_benchMarks : Nat → Int32) (v_word : Nat → Int32) (x1 : Int32) : Option ((Nat → Int32) × (Nat → Int32)) := fX10_toBench_L2 x1 v_word FU 0 v_bench v_benchMarks
set_option maxHeartbeats 4000000 in
set_option maxRecDepth 100000 in
theorem ct_X10_toBench (l : Launch) (D : va_G) (cB cI cZ : ClassId) (tw : Nat) (av : Nat → Nat) (a_this : Nat) (v_thrown : Int32) (v_size : Int32) (v_begins : Int32) (v_entries : Int32) (v_length : Int32) (v_pressed : Int32) (v_streamFrames : Int32) (v_zeros : Int32) (v_level : Int32) (v_sum : Int32) (v_tail : Int32) (v_isPlayed : Int32) (v_found : Int32) (v_strange : Int32) (v_innerFails : Int32) (v_outerFails : Int32) (v_mostMarks : Int32) (v_unsure : Int32) (v_may : Int32) (v_mocks : Int32) (v_sumThen : Int32) (v_bench : Nat → Int32) (v_benchMarks : Nat → Int32) (v_word : Nat → Int32) (x1 : Int32) (res : (Nat → Int32) × (Nat → Int32)) (h : fX10_toBench v_bench v_benchMarks v_word x1 = some res) : Ctr l yX10_toBench cX10_toBench 3 none (rmK 0 0) D (tyL cB cI cZ) tw [.ref a_this, .int x1] (wX10_toBench cB cI cZ av a_this v_thrown v_size v_begins v_entries v_length v_pressed v_streamFrames v_zeros v_level v_sum v_tail v_isPlayed v_found v_strange v_innerFails v_outerFails v_mostMarks v_unsure v_may v_mocks v_sumThen v_bench v_benchMarks v_word) (fun _ : (Nat → Int32) × (Nat → Int32) => none) (fun res : (Nat → Int32) × (Nat → Int32) => (wX10_toBench cB cI cZ av a_this v_thrown v_size v_begins v_entries v_length v_pressed v_streamFrames v_zeros v_level v_sum v_tail v_isPlayed v_found v_strange v_innerFails v_outerFails v_mostMarks v_unsure v_may v_mocks v_sumThen (res.1) (res.2) v_word)) res := by
  refine ctr_of RX10 (by decide) rfl (Nat.le_of_ble_eq_true rfl) ?_
  intro p e s m below meth c A C hw ls hl
  have hx := C.1
  have hb := C.2.1
  have hl : lv_has ls 3 [(0, .ref a_this), (1, .int x1)] := hl
  unfold fX10_toBench at h
  refine lv_iconst (pc := 0) (v := 0) hx hb dX10_toBench_0 (by decide) ?_
  refine lv_istore_n (pc := 1) (lv' := [(2, .int 0), (0, .ref a_this), (1, .int x1)]) hx hb dX10_toBench_1 rfl hl (by decide) rfl (fun ls hl => ?_)
  have Lih2_4 : ∀ (F : Nat) (x2_1 : Int32) (v_bench_2 : Nat → Int32) (v_benchMarks_3 : Nat → Int32) (ls : Array Slot) (H : Heap) (locs : List Loc), lv_has ls 3 [(2, .int x2_1), (0, .ref a_this), (1, .int x1)] → Wd D A s (wX10_toBench cB cI cZ av a_this v_thrown v_size v_begins v_entries v_length v_pressed v_streamFrames v_zeros v_level v_sum v_tail v_isPlayed v_found v_strange v_innerFails v_outerFails v_mostMarks v_unsure v_may v_mocks v_sumThen v_bench_2 v_benchMarks_3 v_word) H locs → fX10_toBench_L2 x1 v_word F x2_1 v_bench_2 v_benchMarks_3 = some res → W p l e (rmK 0 0) s m ([.ref a_this, .int x1] : List Value).toArray below meth c H locs 0 0 (MQ below (QG D (tyL cB cI cZ) A (fun _ : (Nat → Int32) × (Nat → Int32) => none) (fun res : (Nat → Int32) × (Nat → Int32) => (wX10_toBench cB cI cZ av a_this v_thrown v_size v_begins v_entries v_length v_pressed v_streamFrames v_zeros v_level v_sum v_tail v_isPlayed v_found v_strange v_innerFails v_outerFails v_mostMarks v_unsure v_may v_mocks v_sumThen (res.1) (res.2) v_word)) res) ([.ref a_this, .int x1] : List Value).toArray s 0 0 A) (F0 m 2 ls []) := by
    intro F
    induction F with
    | zero => intro x2_1 v_bench_2 v_benchMarks_3 ls H locs hl hw h; rw [fX10_toBench_L2.eq_1] at h; cases h
    | succ F2_4 ih2_4 =>
      intro x2_1 v_bench_2 v_benchMarks_3 ls H locs hl hw h
      rw [fX10_toBench_L2.eq_2] at h
      refine lv_iload_n (pc := 2) hx hb dX10_toBench_2 rfl (lv_at hl 0 rfl) ?_
      refine lv_iload_n (pc := 3) hx hb dX10_toBench_3 rfl (lv_at hl 2 rfl) ?_
      refine lv_icmp_ge (pc := 4) (tgt := 32) hx hb dX10_toBench_4 (by decide) (fun hc_5 => ?_) (fun hc_5 => ?_)
      · have h := ift hc_5 h
        exact x_vret (pc := 32) (v := (v_bench_2, v_benchMarks_3)) C (Option.some.inj h) rfl hw dX10_toBench_32
      · have h := iff' hc_5 h
        refine lv_aload_n (pc := 7) hx hb dX10_toBench_7 rfl (lv_at hl 1 rfl) ?_
        refine gf_X10_94 (pc := 8) C hw 0 rfl rfl dX10_toBench_8 ?_
        refine lv_iload_n (pc := 11) hx hb dX10_toBench_11 rfl (lv_at hl 0 rfl) ?_
        refine lv_aload_n (pc := 12) hx hb dX10_toBench_12 rfl (lv_at hl 1 rfl) ?_
        refine gf_X10_45 (pc := 13) C hw 0 rfl rfl dX10_toBench_13 ?_
        refine lv_iload_n (pc := 16) hx hb dX10_toBench_16 rfl (lv_at hl 0 rfl) ?_
        obtain ⟨hi_6, h⟩ := og_at h
        refine x_iald (pc := 17) C hw 3 rfl hi_6 dX10_toBench_17 ?_
        obtain ⟨hi_7, h⟩ := og_at h
        obtain ⟨v_bench_8, ev_bench_8⟩ : ∃ y : Nat → Int32, y = upd v_bench_2 (Int32.toNatClampNeg x2_1) (v_word (Int32.toNatClampNeg x2_1)) := ⟨_, rfl⟩
        have h := nm_at ev_bench_8 h
        refine x_iast (pc := 18) (wX10_toBench cB cI cZ av a_this v_thrown v_size v_begins v_entries v_length v_pressed v_streamFrames v_zeros v_level v_sum v_tail v_isPlayed v_found v_strange v_innerFails v_outerFails v_mostMarks v_unsure v_may v_mocks v_sumThen v_bench_8 v_benchMarks_3 v_word) C hw 1 rfl hi_7 (by rw [ev_bench_8]; rfl) dX10_toBench_18 (fun H locs hw => ?_)
        refine lv_aload_n (pc := 19) hx hb dX10_toBench_19 rfl (lv_at hl 1 rfl) ?_
        refine gf_X10_97 (pc := 20) C hw 0 rfl rfl dX10_toBench_20 ?_
        refine lv_iload_n (pc := 23) hx hb dX10_toBench_23 rfl (lv_at hl 0 rfl) ?_
        refine lv_iconst (pc := 24) (v := 0) hx hb dX10_toBench_24 (by decide) ?_
        obtain ⟨hi_9, h⟩ := og_at h
        obtain ⟨v_benchMarks_10, ev_benchMarks_10⟩ : ∃ y : Nat → Int32, y = upd v_benchMarks_3 (Int32.toNatClampNeg x2_1) (vp_nar .boolean 0) := ⟨_, rfl⟩
        have h := nm_at ev_benchMarks_10 h
        refine x_zast (pc := 25) (wX10_toBench cB cI cZ av a_this v_thrown v_size v_begins v_entries v_length v_pressed v_streamFrames v_zeros v_level v_sum v_tail v_isPlayed v_found v_strange v_innerFails v_outerFails v_mostMarks v_unsure v_may v_mocks v_sumThen v_bench_8 v_benchMarks_10 v_word) C hw 2 rfl hi_9 (by rw [ev_benchMarks_10]; rfl) dX10_toBench_25 (fun H locs hw => ?_)
        obtain ⟨x2_11, ex2_11⟩ : ∃ y : Int32, y = x2_1 + 1 := ⟨_, rfl⟩
        have h := nm_at ex2_11 h
        refine lv_iinc (pc := 26) (v := x2_11) (lv' := [(2, .int x2_11), (0, .ref a_this), (1, .int x1)]) hx hb dX10_toBench_26 hl (k := 0) rfl (by rw [ex2_11]; rfl) (by decide) rfl (fun ls hl => ?_)
        refine lv_goto (pc := 29) (tgt := 2) hx hb dX10_toBench_29 (by decide) ?_
        exact ih2_4 x2_11 v_bench_8 v_benchMarks_10 ls _ _ (lv_sub hl [0, 1, 2] rfl) hw h
  exact Lih2_4 FU 0 v_bench v_benchMarks ls _ _ (lv_sub hl [0, 1, 2] rfl) hw h
def wX10_seal (cB cI cZ : ClassId) (av : Nat → Nat) (a_this : Nat) (v_thrown : Int32) (v_size : Int32) (v_begins : Int32) (v_entries : Int32) (v_length : Int32) (v_pressed : Int32) (v_streamFrames : Int32) (v_zeros : Int32) (v_level : Int32) (v_sum : Int32) (v_tail : Int32) (v_isPlayed : Int32) (v_found : Int32) (v_strange : Int32) (v_innerFails : Int32) (v_outerFails : Int32) (v_mostMarks : Int32) (v_unsure : Int32) (v_may : Int32) (v_mocks : Int32) (v_sumThen : Int32) (v_bench : Nat → Int32) (v_benchMarks : Nat → Int32) (v_logs : Nat → Int32) (v_marked : Nat → Int32) (v_places : Nat → Int32) (v_powers : Nat → Int32) (v_rows : Nat → Int32) (v_syndromes : Nat → Int32) (v_values : Nat → Int32) (v_word : Nat → Int32) : va_W := [oX10 a_this av v_thrown v_size v_begins v_entries v_length v_pressed v_streamFrames v_zeros v_level v_sum v_tail v_isPlayed v_found v_strange v_innerFails v_outerFails v_mostMarks v_unsure v_may v_mocks v_sumThen, ((av 45), .inl (cI, 32, .inl v_bench)), ((av 46), .inl (cZ, 32, .inl v_benchMarks)), ((av 4), .inl (cI, 256, .inl v_logs)), ((av 23), .inl (cZ, 32, .inl v_marked)), ((av 25), .inl (cI, 4, .inl v_places)), ((av 3), .inl (cI, 512, .inl v_powers)), ((av 27), .inl (cI, 20, .inl v_rows)), ((av 24), .inl (cI, 4, .inl v_syndromes)), ((av 26), .inl (cI, 4, .inl v_values)), ((av 22), .inl (cI, 32, .inl v_word))]
def fX10_seal_L7 (j31_2 : (Nat → Int32) → Option (Int32 × (Nat → Int32) × (Nat → Int32) × (Nat → Int32) × (Nat → Int32) × (Nat → Int32) × (Nat → Int32) × (Nat → Int32) × (Nat → Int32))) (v_bench : Nat → Int32) : Nat → Int32 → (Nat → Int32) → Option (Int32 × (Nat → Int32) × (Nat → Int32) × (Nat → Int32) × (Nat → Int32) × (Nat → Int32) × (Nat → Int32) × (Nat → Int32) × (Nat → Int32))
  | 0, _, _ => none
  | F7_18 + 1, x2_16, v_word_17 => if (32 : Int32) ≤ x2_16 then j31_2 v_word_17 else og (ixb x2_16 32) (og (ixb x2_16 32) (nm (upd v_word_17 (Int32.toNatClampNeg x2_16) (v_bench (Int32.toNatClampNeg x2_16))) fun v_word_22 => nm (x2_16 + 1 : Int32) fun x2_23 => fX10_seal_L7 j31_2 v_bench F7_18 x2_23 v_word_22))
def fX10_seal (v_thrown : Int32) (v_bench : Nat → Int32) (v_benchMarks : Nat → Int32) (v_logs : Nat → Int32) (v_marked : Nat → Int32) (v_places : Nat → Int32) (v_powers : Nat → Int32) (v_rows : Nat → Int32) (v_syndromes : Nat → Int32) (v_values : Nat → Int32) (v_word : Nat → Int32) (x1 : Int32) : Option (Int32 × (Nat → Int32) × (Nat → Int32) × (Nat → Int32) × (Nat → Int32) × (Nat → Int32) × (Nat → Int32) × (Nat → Int32) × (Nat → Int32)) := jk (fun (v_word_1 : Nat → Int32) => ob6 (fX10_check v_logs v_marked v_places v_powers v_rows v_syndromes v_values v_word_1 x1) fun v_marked_3 v_places_4 v_rows_5 v_syndromes_6 v_values_7 v_word_8 => jk (fun (t_10 : Int32) => ob2 (fX10_toBench v_bench v_benchMarks v_word_8 t_10) fun v_bench_12 v_benchMarks_13 => some (0, v_bench_12, v_benchMarks_13, v_marked_3, v_places_4, v_rows_5, v_syndromes_6, v_values_7, v_word_8)) fun j48_11 => if x1 = 0 then j48_11 28 else j48_11 32) fun j31_2 => fX10_seal_L7 j31_2 v_bench FU 0 v_word
set_option maxHeartbeats 4000000 in
set_option maxRecDepth 100000 in
theorem ct_X10_seal (l : Launch) (D : va_G) (cB cI cZ : ClassId) (tw : Nat) (av : Nat → Nat) (a_this : Nat) (v_thrown : Int32) (v_size : Int32) (v_begins : Int32) (v_entries : Int32) (v_length : Int32) (v_pressed : Int32) (v_streamFrames : Int32) (v_zeros : Int32) (v_level : Int32) (v_sum : Int32) (v_tail : Int32) (v_isPlayed : Int32) (v_found : Int32) (v_strange : Int32) (v_innerFails : Int32) (v_outerFails : Int32) (v_mostMarks : Int32) (v_unsure : Int32) (v_may : Int32) (v_mocks : Int32) (v_sumThen : Int32) (v_bench : Nat → Int32) (v_benchMarks : Nat → Int32) (v_logs : Nat → Int32) (v_marked : Nat → Int32) (v_places : Nat → Int32) (v_powers : Nat → Int32) (v_rows : Nat → Int32) (v_syndromes : Nat → Int32) (v_values : Nat → Int32) (v_word : Nat → Int32) (x1 : Int32) (res : Int32 × (Nat → Int32) × (Nat → Int32) × (Nat → Int32) × (Nat → Int32) × (Nat → Int32) × (Nat → Int32) × (Nat → Int32) × (Nat → Int32)) (h : fX10_seal v_thrown v_bench v_benchMarks v_logs v_marked v_places v_powers v_rows v_syndromes v_values v_word x1 = some res) : Ctr l yX10_seal cX10_seal 3 none (rmK 4 102) D (tyL cB cI cZ) tw [.ref a_this, .int x1] (wX10_seal cB cI cZ av a_this v_thrown v_size v_begins v_entries v_length v_pressed v_streamFrames v_zeros v_level v_sum v_tail v_isPlayed v_found v_strange v_innerFails v_outerFails v_mostMarks v_unsure v_may v_mocks v_sumThen v_bench v_benchMarks v_logs v_marked v_places v_powers v_rows v_syndromes v_values v_word) (fun _ : Int32 × (Nat → Int32) × (Nat → Int32) × (Nat → Int32) × (Nat → Int32) × (Nat → Int32) × (Nat → Int32) × (Nat → Int32) × (Nat → Int32) => none) (fun res : Int32 × (Nat → Int32) × (Nat → Int32) × (Nat → Int32) × (Nat → Int32) × (Nat → Int32) × (Nat → Int32) × (Nat → Int32) × (Nat → Int32) => (wX10_seal cB cI cZ av a_this (res.1) v_size v_begins v_entries v_length v_pressed v_streamFrames v_zeros v_level v_sum v_tail v_isPlayed v_found v_strange v_innerFails v_outerFails v_mostMarks v_unsure v_may v_mocks v_sumThen (res.2.1) (res.2.2.1) v_logs (res.2.2.2.1) (res.2.2.2.2.1) v_powers (res.2.2.2.2.2.1) (res.2.2.2.2.2.2.1) (res.2.2.2.2.2.2.2.1) (res.2.2.2.2.2.2.2.2))) res := by
  refine ctr_of RX10 (by decide) rfl (Nat.le_of_ble_eq_true rfl) ?_
  intro p e s m below meth c A C hw ls hl
  have hx := C.1
  have hb := C.2.1
  have hl : lv_has ls 3 [(0, .ref a_this), (1, .int x1)] := hl
  unfold fX10_seal at h
  refine lv_aload_n (pc := 0) hx hb dX10_seal_0 rfl (lv_at hl 0 rfl) ?_
  refine lv_iconst (pc := 1) (v := 0) hx hb dX10_seal_1 (by decide) ?_
  refine pf_X10_100 (pc := 2) (wX10_seal cB cI cZ av a_this 0 v_size v_begins v_entries v_length v_pressed v_streamFrames v_zeros v_level v_sum v_tail v_isPlayed v_found v_strange v_innerFails v_outerFails v_mostMarks v_unsure v_may v_mocks v_sumThen v_bench v_benchMarks v_logs v_marked v_places v_powers v_rows v_syndromes v_values v_word) C hw 0 rfl rfl rfl rfl (Nat.le_of_ble_eq_true rfl) dX10_seal_2 (fun H locs hw => ?_)
  refine lv_iconst (pc := 5) (v := 0) hx hb dX10_seal_5 (by decide) ?_
  refine lv_istore_n (pc := 6) (lv' := [(2, .int 0), (0, .ref a_this), (1, .int x1)]) hx hb dX10_seal_6 rfl hl (by decide) rfl (fun ls hl => ?_)
  obtain ⟨j31_2, ej31_2, h⟩ := jk_at h
  have J31_2 : ∀ (v_word_1 : Nat → Int32) (ls : Array Slot) (H : Heap) (locs : List Loc), lv_has ls 3 [(0, .ref a_this), (1, .int x1)] → Wd D A s (wX10_seal cB cI cZ av a_this 0 v_size v_begins v_entries v_length v_pressed v_streamFrames v_zeros v_level v_sum v_tail v_isPlayed v_found v_strange v_innerFails v_outerFails v_mostMarks v_unsure v_may v_mocks v_sumThen v_bench v_benchMarks v_logs v_marked v_places v_powers v_rows v_syndromes v_values v_word_1) H locs → j31_2 v_word_1 = some res → W p l e (rmK 4 102) s m ([.ref a_this, .int x1] : List Value).toArray below meth c H locs 0 0 (MQ below (QG D (tyL cB cI cZ) A (fun _ : Int32 × (Nat → Int32) × (Nat → Int32) × (Nat → Int32) × (Nat → Int32) × (Nat → Int32) × (Nat → Int32) × (Nat → Int32) × (Nat → Int32) => none) (fun res : Int32 × (Nat → Int32) × (Nat → Int32) × (Nat → Int32) × (Nat → Int32) × (Nat → Int32) × (Nat → Int32) × (Nat → Int32) × (Nat → Int32) => (wX10_seal cB cI cZ av a_this (res.1) v_size v_begins v_entries v_length v_pressed v_streamFrames v_zeros v_level v_sum v_tail v_isPlayed v_found v_strange v_innerFails v_outerFails v_mostMarks v_unsure v_may v_mocks v_sumThen (res.2.1) (res.2.2.1) v_logs (res.2.2.2.1) (res.2.2.2.2.1) v_powers (res.2.2.2.2.2.1) (res.2.2.2.2.2.2.1) (res.2.2.2.2.2.2.2.1) (res.2.2.2.2.2.2.2.2))) res) ([.ref a_this, .int x1] : List Value).toArray s 0 0 A) (F0 m 31 ls []) := by
    intro v_word_1 ls H locs hl hw h
    have h := k1_at ej31_2 h
    refine lv_aload_n (pc := 31) hx hb dX10_seal_31 rfl (lv_at hl 0 rfl) ?_
    refine lv_iload_n (pc := 32) hx hb dX10_seal_32 rfl (lv_at hl 1 rfl) ?_
    obtain ⟨v_marked_3, v_places_4, v_rows_5, v_syndromes_6, v_values_7, v_word_8, hq_9, h⟩ := ob6_at h
    refine x_callV (pc := 33) (rest := []) (stk := []) (wX10_seal cB cI cZ av a_this 0 v_size v_begins v_entries v_length v_pressed v_streamFrames v_zeros v_level v_sum v_tail v_isPlayed v_found v_strange v_innerFails v_outerFails v_mostMarks v_unsure v_may v_mocks v_sumThen v_bench v_benchMarks v_logs v_marked_3 v_places_4 v_powers v_rows_5 v_syndromes_6 v_values_7 v_word_8) C hw (ct_X10_check l D cB cI cZ tw av a_this 0 v_size v_begins v_entries v_length v_pressed v_streamFrames v_zeros v_level v_sum v_tail v_isPlayed v_found v_strange v_innerFails v_outerFails v_mostMarks v_unsure v_may v_mocks v_sumThen v_logs v_marked v_places v_powers v_rows v_syndromes v_values v_word_1 x1 (v_marked_3, v_places_4, v_rows_5, v_syndromes_6, v_values_7, v_word_8) hq_9) cal_X10_check tw_1228 (q0 := 0) rfl rfl [0, 3, 4, 5, 6, 7, 8, 9, 10] [1, 2] 11 [((av 45), .inl (cI, 32, .inl v_bench)), ((av 46), .inl (cZ, 32, .inl v_benchMarks))] rfl rfl rfl rfl rfl rfl rfl rfl rfl rfl rfl (Nat.le_of_ble_eq_true rfl) hl.1 ⟨Nat.le_of_ble_eq_true rfl, Nat.le_of_ble_eq_true rfl⟩ ⟨Nat.zero_le _, Nat.zero_le _⟩ dX10_seal_33 (fun H locs hw => ?_)
    refine lv_aload_n (pc := 36) hx hb dX10_seal_36 rfl (lv_at hl 0 rfl) ?_
    refine lv_iload_n (pc := 37) hx hb dX10_seal_37 rfl (lv_at hl 1 rfl) ?_
    obtain ⟨j48_11, ej48_11, h⟩ := jk_at h
    have J48_11 : ∀ (t_10 : Int32) (ls : Array Slot) (H : Heap) (locs : List Loc), lv_has ls 3 [] → Wd D A s (wX10_seal cB cI cZ av a_this 0 v_size v_begins v_entries v_length v_pressed v_streamFrames v_zeros v_level v_sum v_tail v_isPlayed v_found v_strange v_innerFails v_outerFails v_mostMarks v_unsure v_may v_mocks v_sumThen v_bench v_benchMarks v_logs v_marked_3 v_places_4 v_powers v_rows_5 v_syndromes_6 v_values_7 v_word_8) H locs → j48_11 t_10 = some res → W p l e (rmK 4 102) s m ([.ref a_this, .int x1] : List Value).toArray below meth c H locs 0 0 (MQ below (QG D (tyL cB cI cZ) A (fun _ : Int32 × (Nat → Int32) × (Nat → Int32) × (Nat → Int32) × (Nat → Int32) × (Nat → Int32) × (Nat → Int32) × (Nat → Int32) × (Nat → Int32) => none) (fun res : Int32 × (Nat → Int32) × (Nat → Int32) × (Nat → Int32) × (Nat → Int32) × (Nat → Int32) × (Nat → Int32) × (Nat → Int32) × (Nat → Int32) => (wX10_seal cB cI cZ av a_this (res.1) v_size v_begins v_entries v_length v_pressed v_streamFrames v_zeros v_level v_sum v_tail v_isPlayed v_found v_strange v_innerFails v_outerFails v_mostMarks v_unsure v_may v_mocks v_sumThen (res.2.1) (res.2.2.1) v_logs (res.2.2.2.1) (res.2.2.2.2.1) v_powers (res.2.2.2.2.2.1) (res.2.2.2.2.2.2.1) (res.2.2.2.2.2.2.2.1) (res.2.2.2.2.2.2.2.2))) res) ([.ref a_this, .int x1] : List Value).toArray s 0 0 A) (F0 m 48 ls [.int t_10, .ref a_this]) := by
      intro t_10 ls H locs hl hw h
      have h := k1_at ej48_11 h
      obtain ⟨v_bench_12, v_benchMarks_13, hq_14, h⟩ := ob2_at h
      refine x_callV (pc := 48) (rest := []) (stk := []) (wX10_seal cB cI cZ av a_this 0 v_size v_begins v_entries v_length v_pressed v_streamFrames v_zeros v_level v_sum v_tail v_isPlayed v_found v_strange v_innerFails v_outerFails v_mostMarks v_unsure v_may v_mocks v_sumThen v_bench_12 v_benchMarks_13 v_logs v_marked_3 v_places_4 v_powers v_rows_5 v_syndromes_6 v_values_7 v_word_8) C hw (ct_X10_toBench l D cB cI cZ tw av a_this 0 v_size v_begins v_entries v_length v_pressed v_streamFrames v_zeros v_level v_sum v_tail v_isPlayed v_found v_strange v_innerFails v_outerFails v_mostMarks v_unsure v_may v_mocks v_sumThen v_bench v_benchMarks v_word_8 t_10 (v_bench_12, v_benchMarks_13) hq_14) cal_X10_toBench tw_1551 (q0 := 0) rfl rfl [0, 1, 2, 10] [3, 4, 5, 6, 7, 8, 9] 11 [((av 4), .inl (cI, 256, .inl v_logs)), ((av 23), .inl (cZ, 32, .inl v_marked_3)), ((av 25), .inl (cI, 4, .inl v_places_4)), ((av 3), .inl (cI, 512, .inl v_powers)), ((av 27), .inl (cI, 20, .inl v_rows_5)), ((av 24), .inl (cI, 4, .inl v_syndromes_6)), ((av 26), .inl (cI, 4, .inl v_values_7))] rfl rfl rfl rfl rfl rfl rfl rfl rfl rfl rfl (Nat.le_of_ble_eq_true rfl) hl.1 ⟨Nat.le_of_ble_eq_true rfl, Nat.le_of_ble_eq_true rfl⟩ ⟨Nat.zero_le _, Nat.zero_le _⟩ dX10_seal_48 (fun H locs hw => ?_)
      exact x_vret (pc := 51) (v := (0, v_bench_12, v_benchMarks_13, v_marked_3, v_places_4, v_rows_5, v_syndromes_6, v_values_7, v_word_8)) C (Option.some.inj h) rfl hw dX10_seal_51
    refine lv_if_eq (pc := 38) (tgt := 46) hx hb dX10_seal_38 (by decide) (fun hc_15 => ?_) (fun hc_15 => ?_)
    · have h := ift hc_15 h
      refine lv_bipush (pc := 46) (v := 28) hx hb dX10_seal_46 (by decide) ?_
      exact J48_11 28 ls _ _ (lv_sub hl [] rfl) hw h
    · have h := iff' hc_15 h
      refine lv_bipush (pc := 41) (v := 32) hx hb dX10_seal_41 (by decide) ?_
      refine lv_goto (pc := 43) (tgt := 48) hx hb dX10_seal_43 (by decide) ?_
      exact J48_11 32 ls _ _ (lv_sub hl [] rfl) hw h
  have Lih7_18 : ∀ (F : Nat) (x2_16 : Int32) (v_word_17 : Nat → Int32) (ls : Array Slot) (H : Heap) (locs : List Loc), lv_has ls 3 [(2, .int x2_16), (0, .ref a_this), (1, .int x1)] → Wd D A s (wX10_seal cB cI cZ av a_this 0 v_size v_begins v_entries v_length v_pressed v_streamFrames v_zeros v_level v_sum v_tail v_isPlayed v_found v_strange v_innerFails v_outerFails v_mostMarks v_unsure v_may v_mocks v_sumThen v_bench v_benchMarks v_logs v_marked v_places v_powers v_rows v_syndromes v_values v_word_17) H locs → fX10_seal_L7 j31_2 v_bench F x2_16 v_word_17 = some res → W p l e (rmK 4 102) s m ([.ref a_this, .int x1] : List Value).toArray below meth c H locs 0 0 (MQ below (QG D (tyL cB cI cZ) A (fun _ : Int32 × (Nat → Int32) × (Nat → Int32) × (Nat → Int32) × (Nat → Int32) × (Nat → Int32) × (Nat → Int32) × (Nat → Int32) × (Nat → Int32) => none) (fun res : Int32 × (Nat → Int32) × (Nat → Int32) × (Nat → Int32) × (Nat → Int32) × (Nat → Int32) × (Nat → Int32) × (Nat → Int32) × (Nat → Int32) => (wX10_seal cB cI cZ av a_this (res.1) v_size v_begins v_entries v_length v_pressed v_streamFrames v_zeros v_level v_sum v_tail v_isPlayed v_found v_strange v_innerFails v_outerFails v_mostMarks v_unsure v_may v_mocks v_sumThen (res.2.1) (res.2.2.1) v_logs (res.2.2.2.1) (res.2.2.2.2.1) v_powers (res.2.2.2.2.2.1) (res.2.2.2.2.2.2.1) (res.2.2.2.2.2.2.2.1) (res.2.2.2.2.2.2.2.2))) res) ([.ref a_this, .int x1] : List Value).toArray s 0 0 A) (F0 m 7 ls []) := by
    intro F
    induction F with
    | zero => intro x2_16 v_word_17 ls H locs hl hw h; rw [fX10_seal_L7.eq_1] at h; cases h
    | succ F7_18 ih7_18 =>
      intro x2_16 v_word_17 ls H locs hl hw h
      rw [fX10_seal_L7.eq_2] at h
      refine lv_iload_n (pc := 7) hx hb dX10_seal_7 rfl (lv_at hl 0 rfl) ?_
      refine lv_bipush (pc := 8) (v := 32) hx hb dX10_seal_8 (by decide) ?_
      refine lv_icmp_ge (pc := 10) (tgt := 31) hx hb dX10_seal_10 (by decide) (fun hc_19 => ?_) (fun hc_19 => ?_)
      · have h := ift hc_19 h
        exact J31_2 v_word_17 ls _ _ (lv_sub hl [1, 2] rfl) hw h
      · have h := iff' hc_19 h
        refine lv_aload_n (pc := 13) hx hb dX10_seal_13 rfl (lv_at hl 1 rfl) ?_
        refine gf_X10_45 (pc := 14) C hw 0 rfl rfl dX10_seal_14 ?_
        refine lv_iload_n (pc := 17) hx hb dX10_seal_17 rfl (lv_at hl 0 rfl) ?_
        refine lv_aload_n (pc := 18) hx hb dX10_seal_18 rfl (lv_at hl 1 rfl) ?_
        refine gf_X10_94 (pc := 19) C hw 0 rfl rfl dX10_seal_19 ?_
        refine lv_iload_n (pc := 22) hx hb dX10_seal_22 rfl (lv_at hl 0 rfl) ?_
        obtain ⟨hi_20, h⟩ := og_at h
        refine x_iald (pc := 23) C hw 1 rfl hi_20 dX10_seal_23 ?_
        obtain ⟨hi_21, h⟩ := og_at h
        obtain ⟨v_word_22, ev_word_22⟩ : ∃ y : Nat → Int32, y = upd v_word_17 (Int32.toNatClampNeg x2_16) (v_bench (Int32.toNatClampNeg x2_16)) := ⟨_, rfl⟩
        have h := nm_at ev_word_22 h
        refine x_iast (pc := 24) (wX10_seal cB cI cZ av a_this 0 v_size v_begins v_entries v_length v_pressed v_streamFrames v_zeros v_level v_sum v_tail v_isPlayed v_found v_strange v_innerFails v_outerFails v_mostMarks v_unsure v_may v_mocks v_sumThen v_bench v_benchMarks v_logs v_marked v_places v_powers v_rows v_syndromes v_values v_word_22) C hw 10 rfl hi_21 (by rw [ev_word_22]; rfl) dX10_seal_24 (fun H locs hw => ?_)
        obtain ⟨x2_23, ex2_23⟩ : ∃ y : Int32, y = x2_16 + 1 := ⟨_, rfl⟩
        have h := nm_at ex2_23 h
        refine lv_iinc (pc := 25) (v := x2_23) (lv' := [(2, .int x2_23), (0, .ref a_this), (1, .int x1)]) hx hb dX10_seal_25 hl (k := 0) rfl (by rw [ex2_23]; rfl) (by decide) rfl (fun ls hl => ?_)
        refine lv_goto (pc := 28) (tgt := 7) hx hb dX10_seal_28 (by decide) ?_
        exact ih7_18 x2_23 v_word_22 ls _ _ (lv_sub hl [0, 1, 2] rfl) hw h
  exact Lih7_18 FU 0 v_word ls _ _ (lv_sub hl [0, 1, 2] rfl) hw h
def wX10_syndrome (cB cI cZ : ClassId) (av : Nat → Nat) (a_this : Nat) (v_thrown : Int32) (v_size : Int32) (v_begins : Int32) (v_entries : Int32) (v_length : Int32) (v_pressed : Int32) (v_streamFrames : Int32) (v_zeros : Int32) (v_level : Int32) (v_sum : Int32) (v_tail : Int32) (v_isPlayed : Int32) (v_found : Int32) (v_strange : Int32) (v_innerFails : Int32) (v_outerFails : Int32) (v_mostMarks : Int32) (v_unsure : Int32) (v_may : Int32) (v_mocks : Int32) (v_sumThen : Int32) (v_bench : Nat → Int32) (v_logs : Nat → Int32) (v_powers : Nat → Int32) (v_syndromes : Nat → Int32) (v_word : Nat → Int32) : va_W := [oX10 a_this av v_thrown v_size v_begins v_entries v_length v_pressed v_streamFrames v_zeros v_level v_sum v_tail v_isPlayed v_found v_strange v_innerFails v_outerFails v_mostMarks v_unsure v_may v_mocks v_sumThen, ((av 45), .inl (cI, 32, .inl v_bench)), ((av 4), .inl (cI, 256, .inl v_logs)), ((av 3), .inl (cI, 512, .inl v_powers)), ((av 24), .inl (cI, 4, .inl v_syndromes)), ((av 22), .inl (cI, 32, .inl v_word))]
def fX10_syndrome_L21 (j45_5 : (Nat → Int32) → Option (Int32 × Int32 × (Nat → Int32) × (Nat → Int32))) (v_bench : Nat → Int32) : Nat → Int32 → (Nat → Int32) → Option (Int32 × Int32 × (Nat → Int32) × (Nat → Int32))
  | 0, _, _ => none
  | F21_14 + 1, x3_12, v_word_13 => if (32 : Int32) ≤ x3_12 then j45_5 v_word_13 else og (ixb x3_12 32) (og (ixb x3_12 32) (nm (upd v_word_13 (Int32.toNatClampNeg x3_12) (v_bench (Int32.toNatClampNeg x3_12))) fun v_word_18 => nm (x3_12 + 1 : Int32) fun x3_19 => fX10_syndrome_L21 j45_5 v_bench F21_14 x3_19 v_word_18))
def fX10_syndrome (v_thrown : Int32) (v_bench : Nat → Int32) (v_logs : Nat → Int32) (v_powers : Nat → Int32) (v_syndromes : Nat → Int32) (v_word : Nat → Int32) (x1 : Int32) (x2 : Int32) : Option (Int32 × Int32 × (Nat → Int32) × (Nat → Int32)) := nt1 (fX10_in (Int32.toInt64 x2) 0 3) fun r_1 => if r_1 = 0 then some ((-1), 0, v_syndromes, v_word) else jk (fun (v_word_4 : Nat → Int32) => jk (fun (t_6 : Int32) => ob1 (fX10_findSyndromes v_logs v_powers v_syndromes v_word_4 t_6) fun v_syndromes_8 => og (ixb x2 4) (some ((v_syndromes_8 (Int32.toNatClampNeg x2)), 0, v_syndromes_8, v_word_4))) fun j57_7 => if x1 = 0 then j57_7 28 else j57_7 32) fun j45_5 => fX10_syndrome_L21 j45_5 v_bench FU 0 v_word
set_option maxHeartbeats 4000000 in
set_option maxRecDepth 100000 in
theorem ct_X10_syndrome (l : Launch) (D : va_G) (cB cI cZ : ClassId) (tw : Nat) (av : Nat → Nat) (a_this : Nat) (v_thrown : Int32) (v_size : Int32) (v_begins : Int32) (v_entries : Int32) (v_length : Int32) (v_pressed : Int32) (v_streamFrames : Int32) (v_zeros : Int32) (v_level : Int32) (v_sum : Int32) (v_tail : Int32) (v_isPlayed : Int32) (v_found : Int32) (v_strange : Int32) (v_innerFails : Int32) (v_outerFails : Int32) (v_mostMarks : Int32) (v_unsure : Int32) (v_may : Int32) (v_mocks : Int32) (v_sumThen : Int32) (v_bench : Nat → Int32) (v_logs : Nat → Int32) (v_powers : Nat → Int32) (v_syndromes : Nat → Int32) (v_word : Nat → Int32) (x1 : Int32) (x2 : Int32) (res : Int32 × Int32 × (Nat → Int32) × (Nat → Int32)) (h : fX10_syndrome v_thrown v_bench v_logs v_powers v_syndromes v_word x1 x2 = some res) : Ctr l yX10_syndrome cX10_syndrome 4 (some .int) (rmK 2 47) D (tyL cB cI cZ) tw [.ref a_this, .int x1, .int x2] (wX10_syndrome cB cI cZ av a_this v_thrown v_size v_begins v_entries v_length v_pressed v_streamFrames v_zeros v_level v_sum v_tail v_isPlayed v_found v_strange v_innerFails v_outerFails v_mostMarks v_unsure v_may v_mocks v_sumThen v_bench v_logs v_powers v_syndromes v_word) (fun res : Int32 × Int32 × (Nat → Int32) × (Nat → Int32) => some (.int res.1)) (fun res : Int32 × Int32 × (Nat → Int32) × (Nat → Int32) => (wX10_syndrome cB cI cZ av a_this (res.2.1) v_size v_begins v_entries v_length v_pressed v_streamFrames v_zeros v_level v_sum v_tail v_isPlayed v_found v_strange v_innerFails v_outerFails v_mostMarks v_unsure v_may v_mocks v_sumThen v_bench v_logs v_powers (res.2.2.1) (res.2.2.2))) res := by
  refine ctr_of RX10 (by decide) rfl (Nat.le_of_ble_eq_true rfl) ?_
  intro p e s m below meth c A C hw ls hl
  have hx := C.1
  have hb := C.2.1
  have hl : lv_has ls 4 [(0, .ref a_this), (1, .int x1), (2, .int x2)] := hl
  unfold fX10_syndrome at h
  refine lv_aload_n (pc := 0) hx hb dX10_syndrome_0 rfl (lv_at hl 0 rfl) ?_
  refine lv_iconst (pc := 1) (v := 0) hx hb dX10_syndrome_1 (by decide) ?_
  refine pf_X10_100 (pc := 2) (wX10_syndrome cB cI cZ av a_this 0 v_size v_begins v_entries v_length v_pressed v_streamFrames v_zeros v_level v_sum v_tail v_isPlayed v_found v_strange v_innerFails v_outerFails v_mostMarks v_unsure v_may v_mocks v_sumThen v_bench v_logs v_powers v_syndromes v_word) C hw 0 rfl rfl rfl rfl (Nat.le_of_ble_eq_true rfl) dX10_syndrome_2 (fun H locs hw => ?_)
  refine lv_iload_n (pc := 5) hx hb dX10_syndrome_5 rfl (lv_at hl 2 rfl) ?_
  refine lv_i2l (pc := 6) hx hb dX10_syndrome_6 rfl ?_
  refine lv_lconst (pc := 7) (v := 0) hx hb dX10_syndrome_7 (by decide) ?_
  refine lv_ldc2 (pc := 8) (own := RX10) (v := 3) hx hb C.2.2.2.1 (C.2.2.2.2.1 _ tw_1559) dX10_syndrome_8 ?_
  obtain ⟨r_1, hq_2, h⟩ := nt1_at h
  refine x_callS (pc := 11) (rest := []) (stk := [.int r_1]) (wX10_syndrome cB cI cZ av a_this 0 v_size v_begins v_entries v_length v_pressed v_streamFrames v_zeros v_level v_sum v_tail v_isPlayed v_found v_strange v_innerFails v_outerFails v_mostMarks v_unsure v_may v_mocks v_sumThen v_bench v_logs v_powers v_syndromes v_word) C hw (ct_X10_in l D cB cI cZ tw av (Int32.toInt64 x2) 0 3 r_1 hq_2.symm) cal_X10_in tw_1176 [] [0, 1, 2, 3, 4, 5] 6 [oX10 a_this av 0 v_size v_begins v_entries v_length v_pressed v_streamFrames v_zeros v_level v_sum v_tail v_isPlayed v_found v_strange v_innerFails v_outerFails v_mostMarks v_unsure v_may v_mocks v_sumThen, ((av 45), .inl (cI, 32, .inl v_bench)), ((av 4), .inl (cI, 256, .inl v_logs)), ((av 3), .inl (cI, 512, .inl v_powers)), ((av 24), .inl (cI, 4, .inl v_syndromes)), ((av 22), .inl (cI, 32, .inl v_word))] rfl rfl rfl rfl rfl rfl rfl rfl rfl rfl rfl (Nat.le_of_ble_eq_true rfl) hl.1 ⟨Nat.le_of_ble_eq_true rfl, Nat.le_of_ble_eq_true rfl⟩ ⟨Nat.zero_le _, Nat.zero_le _⟩ dX10_syndrome_11 (fun H locs hw => ?_)
  refine lv_if_ne (pc := 14) (tgt := 19) hx hb dX10_syndrome_14 (by decide) (fun hc_3 => ?_) (fun hc_3 => ?_)
  · have h := iff' hc_3 h
    refine lv_iconst (pc := 19) (v := 0) hx hb dX10_syndrome_19 (by decide) ?_
    refine lv_istore_n (pc := 20) (lv' := [(3, .int 0), (0, .ref a_this), (1, .int x1), (2, .int x2)]) hx hb dX10_syndrome_20 rfl hl (by decide) rfl (fun ls hl => ?_)
    obtain ⟨j45_5, ej45_5, h⟩ := jk_at h
    have J45_5 : ∀ (v_word_4 : Nat → Int32) (ls : Array Slot) (H : Heap) (locs : List Loc), lv_has ls 4 [(0, .ref a_this), (1, .int x1), (2, .int x2)] → Wd D A s (wX10_syndrome cB cI cZ av a_this 0 v_size v_begins v_entries v_length v_pressed v_streamFrames v_zeros v_level v_sum v_tail v_isPlayed v_found v_strange v_innerFails v_outerFails v_mostMarks v_unsure v_may v_mocks v_sumThen v_bench v_logs v_powers v_syndromes v_word_4) H locs → j45_5 v_word_4 = some res → W p l e (rmK 2 47) s m ([.ref a_this, .int x1, .int x2] : List Value).toArray below meth c H locs 0 0 (MQ below (QG D (tyL cB cI cZ) A (fun res : Int32 × Int32 × (Nat → Int32) × (Nat → Int32) => some (.int res.1)) (fun res : Int32 × Int32 × (Nat → Int32) × (Nat → Int32) => (wX10_syndrome cB cI cZ av a_this (res.2.1) v_size v_begins v_entries v_length v_pressed v_streamFrames v_zeros v_level v_sum v_tail v_isPlayed v_found v_strange v_innerFails v_outerFails v_mostMarks v_unsure v_may v_mocks v_sumThen v_bench v_logs v_powers (res.2.2.1) (res.2.2.2))) res) ([.ref a_this, .int x1, .int x2] : List Value).toArray s 0 0 A) (F0 m 45 ls []) := by
      intro v_word_4 ls H locs hl hw h
      have h := k1_at ej45_5 h
      refine lv_aload_n (pc := 45) hx hb dX10_syndrome_45 rfl (lv_at hl 0 rfl) ?_
      refine lv_iload_n (pc := 46) hx hb dX10_syndrome_46 rfl (lv_at hl 1 rfl) ?_
      obtain ⟨j57_7, ej57_7, h⟩ := jk_at h
      have J57_7 : ∀ (t_6 : Int32) (ls : Array Slot) (H : Heap) (locs : List Loc), lv_has ls 4 [(0, .ref a_this), (2, .int x2)] → Wd D A s (wX10_syndrome cB cI cZ av a_this 0 v_size v_begins v_entries v_length v_pressed v_streamFrames v_zeros v_level v_sum v_tail v_isPlayed v_found v_strange v_innerFails v_outerFails v_mostMarks v_unsure v_may v_mocks v_sumThen v_bench v_logs v_powers v_syndromes v_word_4) H locs → j57_7 t_6 = some res → W p l e (rmK 2 47) s m ([.ref a_this, .int x1, .int x2] : List Value).toArray below meth c H locs 0 0 (MQ below (QG D (tyL cB cI cZ) A (fun res : Int32 × Int32 × (Nat → Int32) × (Nat → Int32) => some (.int res.1)) (fun res : Int32 × Int32 × (Nat → Int32) × (Nat → Int32) => (wX10_syndrome cB cI cZ av a_this (res.2.1) v_size v_begins v_entries v_length v_pressed v_streamFrames v_zeros v_level v_sum v_tail v_isPlayed v_found v_strange v_innerFails v_outerFails v_mostMarks v_unsure v_may v_mocks v_sumThen v_bench v_logs v_powers (res.2.2.1) (res.2.2.2))) res) ([.ref a_this, .int x1, .int x2] : List Value).toArray s 0 0 A) (F0 m 57 ls [.int t_6, .ref a_this]) := by
        intro t_6 ls H locs hl hw h
        have h := k1_at ej57_7 h
        obtain ⟨v_syndromes_8, hq_9, h⟩ := ob1_at h
        refine x_callV (pc := 57) (rest := []) (stk := []) (wX10_syndrome cB cI cZ av a_this 0 v_size v_begins v_entries v_length v_pressed v_streamFrames v_zeros v_level v_sum v_tail v_isPlayed v_found v_strange v_innerFails v_outerFails v_mostMarks v_unsure v_may v_mocks v_sumThen v_bench v_logs v_powers v_syndromes_8 v_word_4) C hw (ct_X10_findSyndromes l D cB cI cZ tw av a_this 0 v_size v_begins v_entries v_length v_pressed v_streamFrames v_zeros v_level v_sum v_tail v_isPlayed v_found v_strange v_innerFails v_outerFails v_mostMarks v_unsure v_may v_mocks v_sumThen v_logs v_powers v_syndromes v_word_4 t_6 v_syndromes_8 hq_9) cal_X10_findSyndromes tw_1236 (q0 := 0) rfl rfl [0, 2, 3, 4, 5] [1] 6 [((av 45), .inl (cI, 32, .inl v_bench))] rfl rfl rfl rfl rfl rfl rfl rfl rfl rfl rfl (Nat.le_of_ble_eq_true rfl) hl.1 ⟨Nat.le_of_ble_eq_true rfl, Nat.le_of_ble_eq_true rfl⟩ ⟨Nat.zero_le _, Nat.zero_le _⟩ dX10_syndrome_57 (fun H locs hw => ?_)
        refine lv_aload_n (pc := 60) hx hb dX10_syndrome_60 rfl (lv_at hl 0 rfl) ?_
        refine gf_X10_52 (pc := 61) C hw 0 rfl rfl dX10_syndrome_61 ?_
        refine lv_iload_n (pc := 64) hx hb dX10_syndrome_64 rfl (lv_at hl 1 rfl) ?_
        obtain ⟨hi_10, h⟩ := og_at h
        refine x_iald (pc := 65) C hw 4 rfl hi_10 dX10_syndrome_65 ?_
        exact x_iret (pc := 66) (v := ((v_syndromes_8 (Int32.toNatClampNeg x2)), 0, v_syndromes_8, v_word_4)) C (Option.some.inj h) rfl hw dX10_syndrome_66
      refine lv_if_eq (pc := 47) (tgt := 55) hx hb dX10_syndrome_47 (by decide) (fun hc_11 => ?_) (fun hc_11 => ?_)
      · have h := ift hc_11 h
        refine lv_bipush (pc := 55) (v := 28) hx hb dX10_syndrome_55 (by decide) ?_
        exact J57_7 28 ls _ _ (lv_sub hl [0, 2] rfl) hw h
      · have h := iff' hc_11 h
        refine lv_bipush (pc := 50) (v := 32) hx hb dX10_syndrome_50 (by decide) ?_
        refine lv_goto (pc := 52) (tgt := 57) hx hb dX10_syndrome_52 (by decide) ?_
        exact J57_7 32 ls _ _ (lv_sub hl [0, 2] rfl) hw h
    have Lih21_14 : ∀ (F : Nat) (x3_12 : Int32) (v_word_13 : Nat → Int32) (ls : Array Slot) (H : Heap) (locs : List Loc), lv_has ls 4 [(3, .int x3_12), (0, .ref a_this), (1, .int x1), (2, .int x2)] → Wd D A s (wX10_syndrome cB cI cZ av a_this 0 v_size v_begins v_entries v_length v_pressed v_streamFrames v_zeros v_level v_sum v_tail v_isPlayed v_found v_strange v_innerFails v_outerFails v_mostMarks v_unsure v_may v_mocks v_sumThen v_bench v_logs v_powers v_syndromes v_word_13) H locs → fX10_syndrome_L21 j45_5 v_bench F x3_12 v_word_13 = some res → W p l e (rmK 2 47) s m ([.ref a_this, .int x1, .int x2] : List Value).toArray below meth c H locs 0 0 (MQ below (QG D (tyL cB cI cZ) A (fun res : Int32 × Int32 × (Nat → Int32) × (Nat → Int32) => some (.int res.1)) (fun res : Int32 × Int32 × (Nat → Int32) × (Nat → Int32) => (wX10_syndrome cB cI cZ av a_this (res.2.1) v_size v_begins v_entries v_length v_pressed v_streamFrames v_zeros v_level v_sum v_tail v_isPlayed v_found v_strange v_innerFails v_outerFails v_mostMarks v_unsure v_may v_mocks v_sumThen v_bench v_logs v_powers (res.2.2.1) (res.2.2.2))) res) ([.ref a_this, .int x1, .int x2] : List Value).toArray s 0 0 A) (F0 m 21 ls []) := by
      intro F
      induction F with
      | zero => intro x3_12 v_word_13 ls H locs hl hw h; rw [fX10_syndrome_L21.eq_1] at h; cases h
      | succ F21_14 ih21_14 =>
        intro x3_12 v_word_13 ls H locs hl hw h
        rw [fX10_syndrome_L21.eq_2] at h
        refine lv_iload_n (pc := 21) hx hb dX10_syndrome_21 rfl (lv_at hl 0 rfl) ?_
        refine lv_bipush (pc := 22) (v := 32) hx hb dX10_syndrome_22 (by decide) ?_
        refine lv_icmp_ge (pc := 24) (tgt := 45) hx hb dX10_syndrome_24 (by decide) (fun hc_15 => ?_) (fun hc_15 => ?_)
        · have h := ift hc_15 h
          exact J45_5 v_word_13 ls _ _ (lv_sub hl [1, 2, 3] rfl) hw h
        · have h := iff' hc_15 h
          refine lv_aload_n (pc := 27) hx hb dX10_syndrome_27 rfl (lv_at hl 1 rfl) ?_
          refine gf_X10_45 (pc := 28) C hw 0 rfl rfl dX10_syndrome_28 ?_
          refine lv_iload_n (pc := 31) hx hb dX10_syndrome_31 rfl (lv_at hl 0 rfl) ?_
          refine lv_aload_n (pc := 32) hx hb dX10_syndrome_32 rfl (lv_at hl 1 rfl) ?_
          refine gf_X10_94 (pc := 33) C hw 0 rfl rfl dX10_syndrome_33 ?_
          refine lv_iload_n (pc := 36) hx hb dX10_syndrome_36 rfl (lv_at hl 0 rfl) ?_
          obtain ⟨hi_16, h⟩ := og_at h
          refine x_iald (pc := 37) C hw 1 rfl hi_16 dX10_syndrome_37 ?_
          obtain ⟨hi_17, h⟩ := og_at h
          obtain ⟨v_word_18, ev_word_18⟩ : ∃ y : Nat → Int32, y = upd v_word_13 (Int32.toNatClampNeg x3_12) (v_bench (Int32.toNatClampNeg x3_12)) := ⟨_, rfl⟩
          have h := nm_at ev_word_18 h
          refine x_iast (pc := 38) (wX10_syndrome cB cI cZ av a_this 0 v_size v_begins v_entries v_length v_pressed v_streamFrames v_zeros v_level v_sum v_tail v_isPlayed v_found v_strange v_innerFails v_outerFails v_mostMarks v_unsure v_may v_mocks v_sumThen v_bench v_logs v_powers v_syndromes v_word_18) C hw 5 rfl hi_17 (by rw [ev_word_18]; rfl) dX10_syndrome_38 (fun H locs hw => ?_)
          obtain ⟨x3_19, ex3_19⟩ : ∃ y : Int32, y = x3_12 + 1 := ⟨_, rfl⟩
          have h := nm_at ex3_19 h
          refine lv_iinc (pc := 39) (v := x3_19) (lv' := [(3, .int x3_19), (0, .ref a_this), (1, .int x1), (2, .int x2)]) hx hb dX10_syndrome_39 hl (k := 0) rfl (by rw [ex3_19]; rfl) (by decide) rfl (fun ls hl => ?_)
          refine lv_goto (pc := 42) (tgt := 21) hx hb dX10_syndrome_42 (by decide) ?_
          exact ih21_14 x3_19 v_word_18 ls _ _ (lv_sub hl [0, 1, 2, 3] rfl) hw h
    exact Lih21_14 FU 0 v_word ls _ _ (lv_sub hl [0, 1, 2, 3] rfl) hw h
  · have h := ift hc_3 h
    refine lv_iconst (pc := 17) (v := (-1)) hx hb dX10_syndrome_17 (by decide) ?_
    exact x_iret (pc := 18) (v := ((-1), 0, v_syndromes, v_word)) C (Option.some.inj h) rfl hw dX10_syndrome_18
def wX10_mend (cB cI cZ : ClassId) (av : Nat → Nat) (a_this : Nat) (v_thrown : Int32) (v_size : Int32) (v_begins : Int32) (v_entries : Int32) (v_length : Int32) (v_pressed : Int32) (v_streamFrames : Int32) (v_zeros : Int32) (v_level : Int32) (v_sum : Int32) (v_tail : Int32) (v_isPlayed : Int32) (v_found : Int32) (v_strange : Int32) (v_innerFails : Int32) (v_outerFails : Int32) (v_mostMarks : Int32) (v_unsure : Int32) (v_may : Int32) (v_mocks : Int32) (v_sumThen : Int32) (v_bench : Nat → Int32) (v_benchMarks : Nat → Int32) (v_logs : Nat → Int32) (v_marked : Nat → Int32) (v_places : Nat → Int32) (v_powers : Nat → Int32) (v_rows : Nat → Int32) (v_syndromes : Nat → Int32) (v_values : Nat → Int32) (v_word : Nat → Int32) : va_W := [oX10 a_this av v_thrown v_size v_begins v_entries v_length v_pressed v_streamFrames v_zeros v_level v_sum v_tail v_isPlayed v_found v_strange v_innerFails v_outerFails v_mostMarks v_unsure v_may v_mocks v_sumThen, ((av 45), .inl (cI, 32, .inl v_bench)), ((av 46), .inl (cZ, 32, .inl v_benchMarks)), ((av 4), .inl (cI, 256, .inl v_logs)), ((av 23), .inl (cZ, 32, .inl v_marked)), ((av 25), .inl (cI, 4, .inl v_places)), ((av 3), .inl (cI, 512, .inl v_powers)), ((av 27), .inl (cI, 20, .inl v_rows)), ((av 24), .inl (cI, 4, .inl v_syndromes)), ((av 26), .inl (cI, 4, .inl v_values)), ((av 22), .inl (cI, 32, .inl v_word))]
def fX10_mend_L34 (t_4 : Int32) (j74_8 : (Nat → Int32) → (Nat → Int32) → Option (Int32 × Int32 × (Nat → Int32) × (Nat → Int32) × (Nat → Int32) × (Nat → Int32) × (Nat → Int32) × (Nat → Int32) × (Nat → Int32) × (Nat → Int32))) (v_bench : Nat → Int32) (v_benchMarks : Nat → Int32) : Nat → Int32 → (Nat → Int32) → (Nat → Int32) → Option (Int32 × Int32 × (Nat → Int32) × (Nat → Int32) × (Nat → Int32) × (Nat → Int32) × (Nat → Int32) × (Nat → Int32) × (Nat → Int32) × (Nat → Int32))
  | 0, _, _, _ => none
  | F34_23 + 1, x4_20, v_marked_21, v_word_22 => if t_4 ≤ x4_20 then j74_8 v_marked_21 v_word_22 else og (ixb x4_20 32) (og (ixb x4_20 32) (nm (upd v_word_22 (Int32.toNatClampNeg x4_20) (v_bench (Int32.toNatClampNeg x4_20))) fun v_word_27 => og (ixb x4_20 32) (og (ixb x4_20 32) (nm (upd v_marked_21 (Int32.toNatClampNeg x4_20) (vp_nar .boolean (v_benchMarks (Int32.toNatClampNeg x4_20)))) fun v_marked_30 => nm (x4_20 + 1 : Int32) fun x4_31 => fX10_mend_L34 t_4 j74_8 v_bench v_benchMarks F34_23 x4_31 v_marked_30 v_word_27))))
def fX10_mend (v_thrown : Int32) (v_bench : Nat → Int32) (v_benchMarks : Nat → Int32) (v_logs : Nat → Int32) (v_marked : Nat → Int32) (v_places : Nat → Int32) (v_powers : Nat → Int32) (v_rows : Nat → Int32) (v_syndromes : Nat → Int32) (v_values : Nat → Int32) (v_word : Nat → Int32) (x1 : Int32) (x2 : Int32) : Option (Int32 × Int32 × (Nat → Int32) × (Nat → Int32) × (Nat → Int32) × (Nat → Int32) × (Nat → Int32) × (Nat → Int32) × (Nat → Int32) × (Nat → Int32)) := nt1 (fX10_in (Int32.toInt64 x2) 0 2) fun r_1 => if r_1 = 0 then some ((-1), 0, v_bench, v_benchMarks, v_marked, v_places, v_rows, v_syndromes, v_values, v_word) else jk (fun (t_4 : Int32) => jk (fun (v_marked_6 : Nat → Int32) (v_word_7 : Nat → Int32) => ob6 (fX10_mended v_logs v_marked_6 v_places v_powers v_rows v_syndromes v_values v_word_7 t_4 x2) fun r_9 v_places_10 v_rows_11 v_syndromes_12 v_values_13 v_word_14 => if r_9 < 0 then some (r_9, 0, v_bench, v_benchMarks, v_marked_6, v_places_10, v_rows_11, v_syndromes_12, v_values_13, v_word_14) else ob2 (fX10_toBench v_bench v_benchMarks v_word_14 t_4) fun v_bench_17 v_benchMarks_18 => some (r_9, 0, v_bench_17, v_benchMarks_18, v_marked_6, v_places_10, v_rows_11, v_syndromes_12, v_values_13, v_word_14)) fun j74_8 => fX10_mend_L34 t_4 j74_8 v_bench v_benchMarks FU 0 v_marked v_word) fun j30_5 => if x1 = 0 then j30_5 28 else j30_5 32
set_option maxHeartbeats 4000000 in
set_option maxRecDepth 100000 in
theorem ct_X10_mend (l : Launch) (D : va_G) (cB cI cZ : ClassId) (tw : Nat) (av : Nat → Nat) (a_this : Nat) (v_thrown : Int32) (v_size : Int32) (v_begins : Int32) (v_entries : Int32) (v_length : Int32) (v_pressed : Int32) (v_streamFrames : Int32) (v_zeros : Int32) (v_level : Int32) (v_sum : Int32) (v_tail : Int32) (v_isPlayed : Int32) (v_found : Int32) (v_strange : Int32) (v_innerFails : Int32) (v_outerFails : Int32) (v_mostMarks : Int32) (v_unsure : Int32) (v_may : Int32) (v_mocks : Int32) (v_sumThen : Int32) (v_bench : Nat → Int32) (v_benchMarks : Nat → Int32) (v_logs : Nat → Int32) (v_marked : Nat → Int32) (v_places : Nat → Int32) (v_powers : Nat → Int32) (v_rows : Nat → Int32) (v_syndromes : Nat → Int32) (v_values : Nat → Int32) (v_word : Nat → Int32) (x1 : Int32) (x2 : Int32) (res : Int32 × Int32 × (Nat → Int32) × (Nat → Int32) × (Nat → Int32) × (Nat → Int32) × (Nat → Int32) × (Nat → Int32) × (Nat → Int32) × (Nat → Int32)) (h : fX10_mend v_thrown v_bench v_benchMarks v_logs v_marked v_places v_powers v_rows v_syndromes v_values v_word x1 x2 = some res) : Ctr l yX10_mend cX10_mend 5 (some .int) (rmK 3 79) D (tyL cB cI cZ) tw [.ref a_this, .int x1, .int x2] (wX10_mend cB cI cZ av a_this v_thrown v_size v_begins v_entries v_length v_pressed v_streamFrames v_zeros v_level v_sum v_tail v_isPlayed v_found v_strange v_innerFails v_outerFails v_mostMarks v_unsure v_may v_mocks v_sumThen v_bench v_benchMarks v_logs v_marked v_places v_powers v_rows v_syndromes v_values v_word) (fun res : Int32 × Int32 × (Nat → Int32) × (Nat → Int32) × (Nat → Int32) × (Nat → Int32) × (Nat → Int32) × (Nat → Int32) × (Nat → Int32) × (Nat → Int32) => some (.int res.1)) (fun res : Int32 × Int32 × (Nat → Int32) × (Nat → Int32) × (Nat → Int32) × (Nat → Int32) × (Nat → Int32) × (Nat → Int32) × (Nat → Int32) × (Nat → Int32) => (wX10_mend cB cI cZ av a_this (res.2.1) v_size v_begins v_entries v_length v_pressed v_streamFrames v_zeros v_level v_sum v_tail v_isPlayed v_found v_strange v_innerFails v_outerFails v_mostMarks v_unsure v_may v_mocks v_sumThen (res.2.2.1) (res.2.2.2.1) v_logs (res.2.2.2.2.1) (res.2.2.2.2.2.1) v_powers (res.2.2.2.2.2.2.1) (res.2.2.2.2.2.2.2.1) (res.2.2.2.2.2.2.2.2.1) (res.2.2.2.2.2.2.2.2.2))) res := by
  refine ctr_of RX10 (by decide) rfl (Nat.le_of_ble_eq_true rfl) ?_
  intro p e s m below meth c A C hw ls hl
  have hx := C.1
  have hb := C.2.1
  have hl : lv_has ls 5 [(0, .ref a_this), (1, .int x1), (2, .int x2)] := hl
  unfold fX10_mend at h
  refine lv_aload_n (pc := 0) hx hb dX10_mend_0 rfl (lv_at hl 0 rfl) ?_
  refine lv_iconst (pc := 1) (v := 0) hx hb dX10_mend_1 (by decide) ?_
  refine pf_X10_100 (pc := 2) (wX10_mend cB cI cZ av a_this 0 v_size v_begins v_entries v_length v_pressed v_streamFrames v_zeros v_level v_sum v_tail v_isPlayed v_found v_strange v_innerFails v_outerFails v_mostMarks v_unsure v_may v_mocks v_sumThen v_bench v_benchMarks v_logs v_marked v_places v_powers v_rows v_syndromes v_values v_word) C hw 0 rfl rfl rfl rfl (Nat.le_of_ble_eq_true rfl) dX10_mend_2 (fun H locs hw => ?_)
  refine lv_iload_n (pc := 5) hx hb dX10_mend_5 rfl (lv_at hl 2 rfl) ?_
  refine lv_i2l (pc := 6) hx hb dX10_mend_6 rfl ?_
  refine lv_lconst (pc := 7) (v := 0) hx hb dX10_mend_7 (by decide) ?_
  refine lv_ldc2 (pc := 8) (own := RX10) (v := 2) hx hb C.2.2.2.1 (C.2.2.2.2.1 _ tw_1412) dX10_mend_8 ?_
  obtain ⟨r_1, hq_2, h⟩ := nt1_at h
  refine x_callS (pc := 11) (rest := []) (stk := [.int r_1]) (wX10_mend cB cI cZ av a_this 0 v_size v_begins v_entries v_length v_pressed v_streamFrames v_zeros v_level v_sum v_tail v_isPlayed v_found v_strange v_innerFails v_outerFails v_mostMarks v_unsure v_may v_mocks v_sumThen v_bench v_benchMarks v_logs v_marked v_places v_powers v_rows v_syndromes v_values v_word) C hw (ct_X10_in l D cB cI cZ tw av (Int32.toInt64 x2) 0 2 r_1 hq_2.symm) cal_X10_in tw_1176 [] [0, 1, 2, 3, 4, 5, 6, 7, 8, 9, 10] 11 [oX10 a_this av 0 v_size v_begins v_entries v_length v_pressed v_streamFrames v_zeros v_level v_sum v_tail v_isPlayed v_found v_strange v_innerFails v_outerFails v_mostMarks v_unsure v_may v_mocks v_sumThen, ((av 45), .inl (cI, 32, .inl v_bench)), ((av 46), .inl (cZ, 32, .inl v_benchMarks)), ((av 4), .inl (cI, 256, .inl v_logs)), ((av 23), .inl (cZ, 32, .inl v_marked)), ((av 25), .inl (cI, 4, .inl v_places)), ((av 3), .inl (cI, 512, .inl v_powers)), ((av 27), .inl (cI, 20, .inl v_rows)), ((av 24), .inl (cI, 4, .inl v_syndromes)), ((av 26), .inl (cI, 4, .inl v_values)), ((av 22), .inl (cI, 32, .inl v_word))] rfl rfl rfl rfl rfl rfl rfl rfl rfl rfl rfl (Nat.le_of_ble_eq_true rfl) hl.1 ⟨Nat.le_of_ble_eq_true rfl, Nat.le_of_ble_eq_true rfl⟩ ⟨Nat.zero_le _, Nat.zero_le _⟩ dX10_mend_11 (fun H locs hw => ?_)
  refine lv_if_ne (pc := 14) (tgt := 19) hx hb dX10_mend_14 (by decide) (fun hc_3 => ?_) (fun hc_3 => ?_)
  · have h := iff' hc_3 h
    refine lv_iload_n (pc := 19) hx hb dX10_mend_19 rfl (lv_at hl 1 rfl) ?_
    obtain ⟨j30_5, ej30_5, h⟩ := jk_at h
    have J30_5 : ∀ (t_4 : Int32) (ls : Array Slot) (H : Heap) (locs : List Loc), lv_has ls 5 [(0, .ref a_this), (2, .int x2)] → Wd D A s (wX10_mend cB cI cZ av a_this 0 v_size v_begins v_entries v_length v_pressed v_streamFrames v_zeros v_level v_sum v_tail v_isPlayed v_found v_strange v_innerFails v_outerFails v_mostMarks v_unsure v_may v_mocks v_sumThen v_bench v_benchMarks v_logs v_marked v_places v_powers v_rows v_syndromes v_values v_word) H locs → j30_5 t_4 = some res → W p l e (rmK 3 79) s m ([.ref a_this, .int x1, .int x2] : List Value).toArray below meth c H locs 0 0 (MQ below (QG D (tyL cB cI cZ) A (fun res : Int32 × Int32 × (Nat → Int32) × (Nat → Int32) × (Nat → Int32) × (Nat → Int32) × (Nat → Int32) × (Nat → Int32) × (Nat → Int32) × (Nat → Int32) => some (.int res.1)) (fun res : Int32 × Int32 × (Nat → Int32) × (Nat → Int32) × (Nat → Int32) × (Nat → Int32) × (Nat → Int32) × (Nat → Int32) × (Nat → Int32) × (Nat → Int32) => (wX10_mend cB cI cZ av a_this (res.2.1) v_size v_begins v_entries v_length v_pressed v_streamFrames v_zeros v_level v_sum v_tail v_isPlayed v_found v_strange v_innerFails v_outerFails v_mostMarks v_unsure v_may v_mocks v_sumThen (res.2.2.1) (res.2.2.2.1) v_logs (res.2.2.2.2.1) (res.2.2.2.2.2.1) v_powers (res.2.2.2.2.2.2.1) (res.2.2.2.2.2.2.2.1) (res.2.2.2.2.2.2.2.2.1) (res.2.2.2.2.2.2.2.2.2))) res) ([.ref a_this, .int x1, .int x2] : List Value).toArray s 0 0 A) (F0 m 30 ls [.int t_4]) := by
      intro t_4 ls H locs hl hw h
      have h := k1_at ej30_5 h
      refine lv_istore_n (pc := 30) (lv' := [(3, .int t_4), (0, .ref a_this), (2, .int x2)]) hx hb dX10_mend_30 rfl hl (by decide) rfl (fun ls hl => ?_)
      refine lv_iconst (pc := 31) (v := 0) hx hb dX10_mend_31 (by decide) ?_
      refine lv_istore (pc := 32) (lv' := [(4, .int 0), (3, .int t_4), (0, .ref a_this), (2, .int x2)]) hx hb dX10_mend_32 hl (by decide) rfl (fun ls hl => ?_)
      obtain ⟨j74_8, ej74_8, h⟩ := jk_at h
      have J74_8 : ∀ (v_marked_6 : Nat → Int32) (v_word_7 : Nat → Int32) (ls : Array Slot) (H : Heap) (locs : List Loc), lv_has ls 5 [(3, .int t_4), (0, .ref a_this), (2, .int x2)] → Wd D A s (wX10_mend cB cI cZ av a_this 0 v_size v_begins v_entries v_length v_pressed v_streamFrames v_zeros v_level v_sum v_tail v_isPlayed v_found v_strange v_innerFails v_outerFails v_mostMarks v_unsure v_may v_mocks v_sumThen v_bench v_benchMarks v_logs v_marked_6 v_places v_powers v_rows v_syndromes v_values v_word_7) H locs → j74_8 v_marked_6 v_word_7 = some res → W p l e (rmK 3 79) s m ([.ref a_this, .int x1, .int x2] : List Value).toArray below meth c H locs 0 0 (MQ below (QG D (tyL cB cI cZ) A (fun res : Int32 × Int32 × (Nat → Int32) × (Nat → Int32) × (Nat → Int32) × (Nat → Int32) × (Nat → Int32) × (Nat → Int32) × (Nat → Int32) × (Nat → Int32) => some (.int res.1)) (fun res : Int32 × Int32 × (Nat → Int32) × (Nat → Int32) × (Nat → Int32) × (Nat → Int32) × (Nat → Int32) × (Nat → Int32) × (Nat → Int32) × (Nat → Int32) => (wX10_mend cB cI cZ av a_this (res.2.1) v_size v_begins v_entries v_length v_pressed v_streamFrames v_zeros v_level v_sum v_tail v_isPlayed v_found v_strange v_innerFails v_outerFails v_mostMarks v_unsure v_may v_mocks v_sumThen (res.2.2.1) (res.2.2.2.1) v_logs (res.2.2.2.2.1) (res.2.2.2.2.2.1) v_powers (res.2.2.2.2.2.2.1) (res.2.2.2.2.2.2.2.1) (res.2.2.2.2.2.2.2.2.1) (res.2.2.2.2.2.2.2.2.2))) res) ([.ref a_this, .int x1, .int x2] : List Value).toArray s 0 0 A) (F0 m 74 ls []) := by
        intro v_marked_6 v_word_7 ls H locs hl hw h
        have h := k2_at ej74_8 h
        refine lv_aload_n (pc := 74) hx hb dX10_mend_74 rfl (lv_at hl 1 rfl) ?_
        refine lv_iload_n (pc := 75) hx hb dX10_mend_75 rfl (lv_at hl 0 rfl) ?_
        refine lv_iload_n (pc := 76) hx hb dX10_mend_76 rfl (lv_at hl 2 rfl) ?_
        obtain ⟨r_9, v_places_10, v_rows_11, v_syndromes_12, v_values_13, v_word_14, hq_15, h⟩ := ob6_at h
        refine x_callV (pc := 77) (rest := []) (stk := [.int r_9]) (wX10_mend cB cI cZ av a_this 0 v_size v_begins v_entries v_length v_pressed v_streamFrames v_zeros v_level v_sum v_tail v_isPlayed v_found v_strange v_innerFails v_outerFails v_mostMarks v_unsure v_may v_mocks v_sumThen v_bench v_benchMarks v_logs v_marked_6 v_places_10 v_powers v_rows_11 v_syndromes_12 v_values_13 v_word_14) C hw (ct_X10_mended l D cB cI cZ tw av a_this 0 v_size v_begins v_entries v_length v_pressed v_streamFrames v_zeros v_level v_sum v_tail v_isPlayed v_found v_strange v_innerFails v_outerFails v_mostMarks v_unsure v_may v_mocks v_sumThen v_logs v_marked_6 v_places v_powers v_rows v_syndromes v_values v_word_7 t_4 x2 (r_9, v_places_10, v_rows_11, v_syndromes_12, v_values_13, v_word_14) hq_15) cal_X10_mended tw_1232 (q0 := 0) rfl rfl [0, 3, 4, 5, 6, 7, 8, 9, 10] [1, 2] 11 [((av 45), .inl (cI, 32, .inl v_bench)), ((av 46), .inl (cZ, 32, .inl v_benchMarks))] rfl rfl rfl rfl rfl rfl rfl rfl rfl rfl rfl (Nat.le_of_ble_eq_true rfl) hl.1 ⟨Nat.le_of_ble_eq_true rfl, Nat.le_of_ble_eq_true rfl⟩ ⟨Nat.zero_le _, Nat.zero_le _⟩ dX10_mend_77 (fun H locs hw => ?_)
        refine lv_istore (pc := 80) (lv' := [(4, .int r_9), (3, .int t_4), (0, .ref a_this), (2, .int x2)]) hx hb dX10_mend_80 hl (by decide) rfl (fun ls hl => ?_)
        refine lv_iload (pc := 82) hx hb dX10_mend_82 (lv_at hl 0 rfl) ?_
        refine lv_if_lt (pc := 84) (tgt := 92) hx hb dX10_mend_84 (by decide) (fun hc_16 => ?_) (fun hc_16 => ?_)
        · have h := ift hc_16 h
          refine lv_iload (pc := 92) hx hb dX10_mend_92 (lv_at hl 0 rfl) ?_
          exact x_iret (pc := 94) (v := (r_9, 0, v_bench, v_benchMarks, v_marked_6, v_places_10, v_rows_11, v_syndromes_12, v_values_13, v_word_14)) C (Option.some.inj h) rfl hw dX10_mend_94
        · have h := iff' hc_16 h
          refine lv_aload_n (pc := 87) hx hb dX10_mend_87 rfl (lv_at hl 2 rfl) ?_
          refine lv_iload_n (pc := 88) hx hb dX10_mend_88 rfl (lv_at hl 1 rfl) ?_
          obtain ⟨v_bench_17, v_benchMarks_18, hq_19, h⟩ := ob2_at h
          refine x_callV (pc := 89) (rest := []) (stk := []) (wX10_mend cB cI cZ av a_this 0 v_size v_begins v_entries v_length v_pressed v_streamFrames v_zeros v_level v_sum v_tail v_isPlayed v_found v_strange v_innerFails v_outerFails v_mostMarks v_unsure v_may v_mocks v_sumThen v_bench_17 v_benchMarks_18 v_logs v_marked_6 v_places_10 v_powers v_rows_11 v_syndromes_12 v_values_13 v_word_14) C hw (ct_X10_toBench l D cB cI cZ tw av a_this 0 v_size v_begins v_entries v_length v_pressed v_streamFrames v_zeros v_level v_sum v_tail v_isPlayed v_found v_strange v_innerFails v_outerFails v_mostMarks v_unsure v_may v_mocks v_sumThen v_bench v_benchMarks v_word_14 t_4 (v_bench_17, v_benchMarks_18) hq_19) cal_X10_toBench tw_1551 (q0 := 0) rfl rfl [0, 1, 2, 10] [3, 4, 5, 6, 7, 8, 9] 11 [((av 4), .inl (cI, 256, .inl v_logs)), ((av 23), .inl (cZ, 32, .inl v_marked_6)), ((av 25), .inl (cI, 4, .inl v_places_10)), ((av 3), .inl (cI, 512, .inl v_powers)), ((av 27), .inl (cI, 20, .inl v_rows_11)), ((av 24), .inl (cI, 4, .inl v_syndromes_12)), ((av 26), .inl (cI, 4, .inl v_values_13))] rfl rfl rfl rfl rfl rfl rfl rfl rfl rfl rfl (Nat.le_of_ble_eq_true rfl) hl.1 ⟨Nat.le_of_ble_eq_true rfl, Nat.le_of_ble_eq_true rfl⟩ ⟨Nat.zero_le _, Nat.zero_le _⟩ dX10_mend_89 (fun H locs hw => ?_)
          refine lv_iload (pc := 92) hx hb dX10_mend_92 (lv_at hl 0 rfl) ?_
          exact x_iret (pc := 94) (v := (r_9, 0, v_bench_17, v_benchMarks_18, v_marked_6, v_places_10, v_rows_11, v_syndromes_12, v_values_13, v_word_14)) C (Option.some.inj h) rfl hw dX10_mend_94
      have Lih34_23 : ∀ (F : Nat) (x4_20 : Int32) (v_marked_21 : Nat → Int32) (v_word_22 : Nat → Int32) (ls : Array Slot) (H : Heap) (locs : List Loc), lv_has ls 5 [(4, .int x4_20), (3, .int t_4), (0, .ref a_this), (2, .int x2)] → Wd D A s (wX10_mend cB cI cZ av a_this 0 v_size v_begins v_entries v_length v_pressed v_streamFrames v_zeros v_level v_sum v_tail v_isPlayed v_found v_strange v_innerFails v_outerFails v_mostMarks v_unsure v_may v_mocks v_sumThen v_bench v_benchMarks v_logs v_marked_21 v_places v_powers v_rows v_syndromes v_values v_word_22) H locs → fX10_mend_L34 t_4 j74_8 v_bench v_benchMarks F x4_20 v_marked_21 v_word_22 = some res → W p l e (rmK 3 79) s m ([.ref a_this, .int x1, .int x2] : List Value).toArray below meth c H locs 0 0 (MQ below (QG D (tyL cB cI cZ) A (fun res : Int32 × Int32 × (Nat → Int32) × (Nat → Int32) × (Nat → Int32) × (Nat → Int32) × (Nat → Int32) × (Nat → Int32) × (Nat → Int32) × (Nat → Int32) => some (.int res.1)) (fun res : Int32 × Int32 × (Nat → Int32) × (Nat → Int32) × (Nat → Int32) × (Nat → Int32) × (Nat → Int32) × (Nat → Int32) × (Nat → Int32) × (Nat → Int32) => (wX10_mend cB cI cZ av a_this (res.2.1) v_size v_begins v_entries v_length v_pressed v_streamFrames v_zeros v_level v_sum v_tail v_isPlayed v_found v_strange v_innerFails v_outerFails v_mostMarks v_unsure v_may v_mocks v_sumThen (res.2.2.1) (res.2.2.2.1) v_logs (res.2.2.2.2.1) (res.2.2.2.2.2.1) v_powers (res.2.2.2.2.2.2.1) (res.2.2.2.2.2.2.2.1) (res.2.2.2.2.2.2.2.2.1) (res.2.2.2.2.2.2.2.2.2))) res) ([.ref a_this, .int x1, .int x2] : List Value).toArray s 0 0 A) (F0 m 34 ls []) := by
        intro F
        induction F with
        | zero => intro x4_20 v_marked_21 v_word_22 ls H locs hl hw h; rw [fX10_mend_L34.eq_1] at h; cases h
        | succ F34_23 ih34_23 =>
          intro x4_20 v_marked_21 v_word_22 ls H locs hl hw h
          rw [fX10_mend_L34.eq_2] at h
          refine lv_iload (pc := 34) hx hb dX10_mend_34 (lv_at hl 0 rfl) ?_
          refine lv_iload_n (pc := 36) hx hb dX10_mend_36 rfl (lv_at hl 1 rfl) ?_
          refine lv_icmp_ge (pc := 37) (tgt := 74) hx hb dX10_mend_37 (by decide) (fun hc_24 => ?_) (fun hc_24 => ?_)
          · have h := ift hc_24 h
            exact J74_8 v_marked_21 v_word_22 ls _ _ (lv_sub hl [1, 2, 3] rfl) hw h
          · have h := iff' hc_24 h
            refine lv_aload_n (pc := 40) hx hb dX10_mend_40 rfl (lv_at hl 2 rfl) ?_
            refine gf_X10_45 (pc := 41) C hw 0 rfl rfl dX10_mend_41 ?_
            refine lv_iload (pc := 44) hx hb dX10_mend_44 (lv_at hl 0 rfl) ?_
            refine lv_aload_n (pc := 46) hx hb dX10_mend_46 rfl (lv_at hl 2 rfl) ?_
            refine gf_X10_94 (pc := 47) C hw 0 rfl rfl dX10_mend_47 ?_
            refine lv_iload (pc := 50) hx hb dX10_mend_50 (lv_at hl 0 rfl) ?_
            obtain ⟨hi_25, h⟩ := og_at h
            refine x_iald (pc := 52) C hw 1 rfl hi_25 dX10_mend_52 ?_
            obtain ⟨hi_26, h⟩ := og_at h
            obtain ⟨v_word_27, ev_word_27⟩ : ∃ y : Nat → Int32, y = upd v_word_22 (Int32.toNatClampNeg x4_20) (v_bench (Int32.toNatClampNeg x4_20)) := ⟨_, rfl⟩
            have h := nm_at ev_word_27 h
            refine x_iast (pc := 53) (wX10_mend cB cI cZ av a_this 0 v_size v_begins v_entries v_length v_pressed v_streamFrames v_zeros v_level v_sum v_tail v_isPlayed v_found v_strange v_innerFails v_outerFails v_mostMarks v_unsure v_may v_mocks v_sumThen v_bench v_benchMarks v_logs v_marked_21 v_places v_powers v_rows v_syndromes v_values v_word_27) C hw 10 rfl hi_26 (by rw [ev_word_27]; rfl) dX10_mend_53 (fun H locs hw => ?_)
            refine lv_aload_n (pc := 54) hx hb dX10_mend_54 rfl (lv_at hl 2 rfl) ?_
            refine gf_X10_48 (pc := 55) C hw 0 rfl rfl dX10_mend_55 ?_
            refine lv_iload (pc := 58) hx hb dX10_mend_58 (lv_at hl 0 rfl) ?_
            refine lv_aload_n (pc := 60) hx hb dX10_mend_60 rfl (lv_at hl 2 rfl) ?_
            refine gf_X10_97 (pc := 61) C hw 0 rfl rfl dX10_mend_61 ?_
            refine lv_iload (pc := 64) hx hb dX10_mend_64 (lv_at hl 0 rfl) ?_
            obtain ⟨hi_28, h⟩ := og_at h
            refine x_zald (pc := 66) C hw 2 rfl hi_28 dX10_mend_66 ?_
            obtain ⟨hi_29, h⟩ := og_at h
            obtain ⟨v_marked_30, ev_marked_30⟩ : ∃ y : Nat → Int32, y = upd v_marked_21 (Int32.toNatClampNeg x4_20) (vp_nar .boolean (v_benchMarks (Int32.toNatClampNeg x4_20))) := ⟨_, rfl⟩
            have h := nm_at ev_marked_30 h
            refine x_zast (pc := 67) (wX10_mend cB cI cZ av a_this 0 v_size v_begins v_entries v_length v_pressed v_streamFrames v_zeros v_level v_sum v_tail v_isPlayed v_found v_strange v_innerFails v_outerFails v_mostMarks v_unsure v_may v_mocks v_sumThen v_bench v_benchMarks v_logs v_marked_30 v_places v_powers v_rows v_syndromes v_values v_word_27) C hw 4 rfl hi_29 (by rw [ev_marked_30]; rfl) dX10_mend_67 (fun H locs hw => ?_)
            obtain ⟨x4_31, ex4_31⟩ : ∃ y : Int32, y = x4_20 + 1 := ⟨_, rfl⟩
            have h := nm_at ex4_31 h
            refine lv_iinc (pc := 68) (v := x4_31) (lv' := [(4, .int x4_31), (3, .int t_4), (0, .ref a_this), (2, .int x2)]) hx hb dX10_mend_68 hl (k := 0) rfl (by rw [ex4_31]; rfl) (by decide) rfl (fun ls hl => ?_)
            refine lv_goto (pc := 71) (tgt := 34) hx hb dX10_mend_71 (by decide) ?_
            exact ih34_23 x4_31 v_marked_30 v_word_27 ls _ _ (lv_sub hl [0, 1, 2, 3] rfl) hw h
      exact Lih34_23 FU 0 v_marked v_word ls _ _ (lv_sub hl [0, 1, 2, 3] rfl) hw h
    refine lv_if_eq (pc := 20) (tgt := 28) hx hb dX10_mend_20 (by decide) (fun hc_32 => ?_) (fun hc_32 => ?_)
    · have h := ift hc_32 h
      refine lv_bipush (pc := 28) (v := 28) hx hb dX10_mend_28 (by decide) ?_
      exact J30_5 28 ls _ _ (lv_sub hl [0, 2] rfl) hw h
    · have h := iff' hc_32 h
      refine lv_bipush (pc := 23) (v := 32) hx hb dX10_mend_23 (by decide) ?_
      refine lv_goto (pc := 25) (tgt := 30) hx hb dX10_mend_25 (by decide) ?_
      exact J30_5 32 ls _ _ (lv_sub hl [0, 2] rfl) hw h
  · have h := ift hc_3 h
    refine lv_iconst (pc := 17) (v := (-1)) hx hb dX10_mend_17 (by decide) ?_
    exact x_iret (pc := 18) (v := ((-1), 0, v_bench, v_benchMarks, v_marked, v_places, v_rows, v_syndromes, v_values, v_word)) C (Option.some.inj h) rfl hw dX10_mend_18
