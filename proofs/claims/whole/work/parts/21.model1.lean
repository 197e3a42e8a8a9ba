def wX10_in (cB cI cZ : ClassId) (av : Nat → Nat) : va_W := []
def fX10_in (x0 : Int64) (x2 : Int64) (x4 : Int64) : Int32 := if (lg_cmp x0 x2) < 0 then 0 else if 0 < (lg_cmp x0 x4) then 0 else 1
set_option maxHeartbeats 4000000 in
set_option maxRecDepth 100000 in
theorem ct_X10_in (l : Launch) (D : va_G) (cB cI cZ : ClassId) (tw : Nat) (av : Nat → Nat) (x0 : Int64) (x2 : Int64) (x4 : Int64) (res : Int32) (h : fX10_in x0 x2 x4 = res) : Ctr l yX10_in cX10_in 6 (some .boolean) (rmK 0 0) D (tyL cB cI cZ) tw [.long x0, .long x2, .long x4] (wX10_in cB cI cZ av) (fun res : Int32 => some (.int res)) (fun res : Int32 => (wX10_in cB cI cZ av)) res := by
  refine ctr_of RX10 (by decide) rfl (Nat.le_of_ble_eq_true rfl) ?_
  intro p e s m below meth c A C hw ls hl
  have hx := C.1
  have hb := C.2.1
  have hl : lv_has ls 6 [(0, .long x0), (2, .long x2), (4, .long x4)] := hl
  unfold fX10_in at h
  refine lv_lload_n (pc := 0) hx hb dX10_in_0 rfl (lv_at hl 0 rfl) ?_
  refine lv_lload_n (pc := 1) hx hb dX10_in_1 rfl (lv_at hl 1 rfl) ?_
  refine W.lcmp (pc := 2) hx hb dX10_in_2 ?_
  refine lv_if_lt (pc := 3) (tgt := 17) hx hb dX10_in_3 (by decide) (fun hc_1 => ?_) (fun hc_1 => ?_)
  · have h := ift hc_1 h
    refine lv_iconst (pc := 17) (v := 0) hx hb dX10_in_17 (by decide) ?_
    exact x_zret (pc := 18) (v := 0) C h rfl rfl hw dX10_in_18
  · have h := iff' hc_1 h
    refine lv_lload_n (pc := 6) hx hb dX10_in_6 rfl (lv_at hl 0 rfl) ?_
    refine lv_lload (pc := 7) hx hb dX10_in_7 (lv_at hl 2 rfl) ?_
    refine W.lcmp (pc := 9) hx hb dX10_in_9 ?_
    refine lv_if_gt (pc := 10) (tgt := 17) hx hb dX10_in_10 (by decide) (fun hc_2 => ?_) (fun hc_2 => ?_)
    · have h := ift hc_2 h
      refine lv_iconst (pc := 17) (v := 0) hx hb dX10_in_17 (by decide) ?_
      exact x_zret (pc := 18) (v := 0) C h rfl rfl hw dX10_in_18
    · have h := iff' hc_2 h
      refine lv_iconst (pc := 13) (v := 1) hx hb dX10_in_13 (by decide) ?_
      refine lv_goto (pc := 14) (tgt := 18) hx hb dX10_in_14 (by decide) ?_
      exact x_zret (pc := 18) (v := 1) C h rfl rfl hw dX10_in_18
def wX10_times (cB cI cZ : ClassId) (av : Nat → Nat) (a_this : Nat) (v_thrown : Int32) (v_size : Int32) (v_begins : Int32) (v_entries : Int32) (v_length : Int32) (v_pressed : Int32) (v_streamFrames : Int32) (v_zeros : Int32) (v_level : Int32) (v_sum : Int32) (v_tail : Int32) (v_isPlayed : Int32) (v_found : Int32) (v_strange : Int32) (v_innerFails : Int32) (v_outerFails : Int32) (v_mostMarks : Int32) (v_unsure : Int32) (v_may : Int32) (v_mocks : Int32) (v_sumThen : Int32) (v_logs : Nat → Int32) (v_powers : Nat → Int32) : va_W := [oX10 a_this av v_thrown v_size v_begins v_entries v_length v_pressed v_streamFrames v_zeros v_level v_sum v_tail v_isPlayed v_found v_strange v_innerFails v_outerFails v_mostMarks v_unsure v_may v_mocks v_sumThen, ((av 4), .inl (cI, 256, .inl v_logs)), ((av 3), .inl (cI, 512, .inl v_powers))]
def fX10_times (v_logs : Nat → Int32) (v_powers : Nat → Int32) (x1 : Int32) (x2 : Int32) : Option (Int32) := if x1 = 0 then some 0 else if x2 = 0 then some 0 else og (ixb x1 256) (og (ixb x2 256) (og (ixb ((v_logs (Int32.toNatClampNeg x1)) + (v_logs (Int32.toNatClampNeg x2))) 512) (some (v_powers (Int32.toNatClampNeg ((v_logs (Int32.toNatClampNeg x1)) + (v_logs (Int32.toNatClampNeg x2))))))))
set_option maxHeartbeats 4000000 in
set_option maxRecDepth 100000 in
theorem ct_X10_times (l : Launch) (D : va_G) (cB cI cZ : ClassId) (tw : Nat) (av : Nat → Nat) (a_this : Nat) (v_thrown : Int32) (v_size : Int32) (v_begins : Int32) (v_entries : Int32) (v_length : Int32) (v_pressed : Int32) (v_streamFrames : Int32) (v_zeros : Int32) (v_level : Int32) (v_sum : Int32) (v_tail : Int32) (v_isPlayed : Int32) (v_found : Int32) (v_strange : Int32) (v_innerFails : Int32) (v_outerFails : Int32) (v_mostMarks : Int32) (v_unsure : Int32) (v_may : Int32) (v_mocks : Int32) (v_sumThen : Int32) (v_logs : Nat → Int32) (v_powers : Nat → Int32) (x1 : Int32) (x2 : Int32) (res : Int32) (h : fX10_times v_logs v_powers x1 x2 = some res) : Ctr l yX10_times cX10_times 3 (some .int) (rmK 0 0) D (tyL cB cI cZ) tw [.ref a_this, .int x1, .int x2] (wX10_times cB cI cZ av a_this v_thrown v_size v_begins v_entries v_length v_pressed v_streamFrames v_zeros v_level v_sum v_tail v_isPlayed v_found v_strange v_innerFails v_outerFails v_mostMarks v_unsure v_may v_mocks v_sumThen v_logs v_powers) (fun res : Int32 => some (.int res)) (fun res : Int32 => (wX10_times cB cI cZ av a_this v_thrown v_size v_begins v_entries v_length v_pressed v_streamFrames v_zeros v_level v_sum v_tail v_isPlayed v_found v_strange v_innerFails v_outerFails v_mostMarks v_unsure v_may v_mocks v_sumThen v_logs v_powers)) res := by
  refine ctr_of RX10 (by decide) rfl (Nat.le_of_ble_eq_true rfl) ?_
  intro p e s m below meth c A C hw ls hl
  have hx := C.1
  have hb := C.2.1
  have hl : lv_has ls 3 [(0, .ref a_this), (1, .int x1), (2, .int x2)] := hl
  unfold fX10_times at h
  refine lv_iload_n (pc := 0) hx hb dX10_times_0 rfl (lv_at hl 1 rfl) ?_
  refine lv_if_eq (pc := 1) (tgt := 8) hx hb dX10_times_1 (by decide) (fun hc_1 => ?_) (fun hc_1 => ?_)
  · have h := ift hc_1 h
    refine lv_iconst (pc := 8) (v := 0) hx hb dX10_times_8 (by decide) ?_
    refine lv_goto (pc := 9) (tgt := 30) hx hb dX10_times_9 (by decide) ?_
    exact x_iret (pc := 30) (v := 0) C (Option.some.inj h) rfl hw dX10_times_30
  · have h := iff' hc_1 h
    refine lv_iload_n (pc := 4) hx hb dX10_times_4 rfl (lv_at hl 2 rfl) ?_
    refine lv_if_ne (pc := 5) (tgt := 12) hx hb dX10_times_5 (by decide) (fun hc_2 => ?_) (fun hc_2 => ?_)
    · have h := iff' hc_2 h
      refine lv_aload_n (pc := 12) hx hb dX10_times_12 rfl (lv_at hl 0 rfl) ?_
      refine gf_X10_16 (pc := 13) C hw 0 rfl rfl dX10_times_13 ?_
      refine lv_aload_n (pc := 16) hx hb dX10_times_16 rfl (lv_at hl 0 rfl) ?_
      refine gf_X10_19 (pc := 17) C hw 0 rfl rfl dX10_times_17 ?_
      refine lv_iload_n (pc := 20) hx hb dX10_times_20 rfl (lv_at hl 1 rfl) ?_
      obtain ⟨hi_3, h⟩ := og_at h
      refine x_iald (pc := 21) C hw 1 rfl hi_3 dX10_times_21 ?_
      refine lv_aload_n (pc := 22) hx hb dX10_times_22 rfl (lv_at hl 0 rfl) ?_
      refine gf_X10_19 (pc := 23) C hw 0 rfl rfl dX10_times_23 ?_
      refine lv_iload_n (pc := 26) hx hb dX10_times_26 rfl (lv_at hl 2 rfl) ?_
      obtain ⟨hi_4, h⟩ := og_at h
      refine x_iald (pc := 27) C hw 1 rfl hi_4 dX10_times_27 ?_
      refine lv_iadd (pc := 28) hx hb dX10_times_28 ?_
      obtain ⟨hi_5, h⟩ := og_at h
      refine x_iald (pc := 29) C hw 2 rfl hi_5 dX10_times_29 ?_
      exact x_iret (pc := 30) (v := (v_powers (Int32.toNatClampNeg ((v_logs (Int32.toNatClampNeg x1)) + (v_logs (Int32.toNatClampNeg x2)))))) C (Option.some.inj h) rfl hw dX10_times_30
    · have h := ift hc_2 h
      refine lv_iconst (pc := 8) (v := 0) hx hb dX10_times_8 (by decide) ?_
      refine lv_goto (pc := 9) (tgt := 30) hx hb dX10_times_9 (by decide) ?_
      exact x_iret (pc := 30) (v := 0) C (Option.some.inj h) rfl hw dX10_times_30
def wX10_inverse (cB cI cZ : ClassId) (av : Nat → Nat) (a_this : Nat) (v_thrown : Int32) (v_size : Int32) (v_begins : Int32) (v_entries : Int32) (v_length : Int32) (v_pressed : Int32) (v_streamFrames : Int32) (v_zeros : Int32) (v_level : Int32) (v_sum : Int32) (v_tail : Int32) (v_isPlayed : Int32) (v_found : Int32) (v_strange : Int32) (v_innerFails : Int32) (v_outerFails : Int32) (v_mostMarks : Int32) (v_unsure : Int32) (v_may : Int32) (v_mocks : Int32) (v_sumThen : Int32) (v_logs : Nat → Int32) (v_powers : Nat → Int32) : va_W := [oX10 a_this av v_thrown v_size v_begins v_entries v_length v_pressed v_streamFrames v_zeros v_level v_sum v_tail v_isPlayed v_found v_strange v_innerFails v_outerFails v_mostMarks v_unsure v_may v_mocks v_sumThen, ((av 4), .inl (cI, 256, .inl v_logs)), ((av 3), .inl (cI, 512, .inl v_powers))]
def fX10_inverse (v_logs : Nat → Int32) (v_powers : Nat → Int32) (x1 : Int32) : Option (Int32) := og (ixb x1 256) (og (ixb ((255 : Int32) - (v_logs (Int32.toNatClampNeg x1))) 512) (some (v_powers (Int32.toNatClampNeg ((255 : Int32) - (v_logs (Int32.toNatClampNeg x1)))))))
set_option maxHeartbeats 4000000 in
set_option maxRecDepth 100000 in
theorem ct_X10_inverse (l : Launch) (D : va_G) (cB cI cZ : ClassId) (tw : Nat) (av : Nat → Nat) (a_this : Nat) (v_thrown : Int32) (v_size : Int32) (v_begins : Int32) (v_entries : Int32) (v_length : Int32) (v_pressed : Int32) (v_streamFrames : Int32) (v_zeros : Int32) (v_level : Int32) (v_sum : Int32) (v_tail : Int32) (v_isPlayed : Int32) (v_found : Int32) (v_strange : Int32) (v_innerFails : Int32) (v_outerFails : Int32) (v_mostMarks : Int32) (v_unsure : Int32) (v_may : Int32) (v_mocks : Int32) (v_sumThen : Int32) (v_logs : Nat → Int32) (v_powers : Nat → Int32) (x1 : Int32) (res : Int32) (h : fX10_inverse v_logs v_powers x1 = some res) : Ctr l yX10_inverse cX10_inverse 2 (some .int) (rmK 0 0) D (tyL cB cI cZ) tw [.ref a_this, .int x1] (wX10_inverse cB cI cZ av a_this v_thrown v_size v_begins v_entries v_length v_pressed v_streamFrames v_zeros v_level v_sum v_tail v_isPlayed v_found v_strange v_innerFails v_outerFails v_mostMarks v_unsure v_may v_mocks v_sumThen v_logs v_powers) (fun res : Int32 => some (.int res)) (fun res : Int32 => (wX10_inverse cB cI cZ av a_this v_thrown v_size v_begins v_entries v_length v_pressed v_streamFrames v_zeros v_level v_sum v_tail v_isPlayed v_found v_strange v_innerFails v_outerFails v_mostMarks v_unsure v_may v_mocks v_sumThen v_logs v_powers)) res := by
  refine ctr_of RX10 (by decide) rfl (Nat.le_of_ble_eq_true rfl) ?_
  intro p e s m below meth c A C hw ls hl
  have hx := C.1
  have hb := C.2.1
  have hl : lv_has ls 2 [(0, .ref a_this), (1, .int x1)] := hl
  unfold fX10_inverse at h
  refine lv_aload_n (pc := 0) hx hb dX10_inverse_0 rfl (lv_at hl 0 rfl) ?_
  refine gf_X10_16 (pc := 1) C hw 0 rfl rfl dX10_inverse_1 ?_
  refine lv_sipush (pc := 4) (v := 255) hx hb dX10_inverse_4 (by decide) ?_
  refine lv_aload_n (pc := 7) hx hb dX10_inverse_7 rfl (lv_at hl 0 rfl) ?_
  refine gf_X10_19 (pc := 8) C hw 0 rfl rfl dX10_inverse_8 ?_
  refine lv_iload_n (pc := 11) hx hb dX10_inverse_11 rfl (lv_at hl 1 rfl) ?_
  obtain ⟨hi_1, h⟩ := og_at h
  refine x_iald (pc := 12) C hw 1 rfl hi_1 dX10_inverse_12 ?_
  refine lv_isub (pc := 13) hx hb dX10_inverse_13 ?_
  obtain ⟨hi_2, h⟩ := og_at h
  refine x_iald (pc := 14) C hw 2 rfl hi_2 dX10_inverse_14 ?_
  exact x_iret (pc := 15) (v := (v_powers (Int32.toNatClampNeg ((255 : Int32) - (v_logs (Int32.toNatClampNeg x1)))))) C (Option.some.inj h) rfl hw dX10_inverse_15
def wX10_power (cB cI cZ : ClassId) (av : Nat → Nat) (a_this : Nat) (v_thrown : Int32) (v_size : Int32) (v_begins : Int32) (v_entries : Int32) (v_length : Int32) (v_pressed : Int32) (v_streamFrames : Int32) (v_zeros : Int32) (v_level : Int32) (v_sum : Int32) (v_tail : Int32) (v_isPlayed : Int32) (v_found : Int32) (v_strange : Int32) (v_innerFails : Int32) (v_outerFails : Int32) (v_mostMarks : Int32) (v_unsure : Int32) (v_may : Int32) (v_mocks : Int32) (v_sumThen : Int32) (v_powers : Nat → Int32) : va_W := [oX10 a_this av v_thrown v_size v_begins v_entries v_length v_pressed v_streamFrames v_zeros v_level v_sum v_tail v_isPlayed v_found v_strange v_innerFails v_outerFails v_mostMarks v_unsure v_may v_mocks v_sumThen, ((av 3), .inl (cI, 512, .inl v_powers))]
def fX10_power (v_powers : Nat → Int32) (x1 : Int32) (x2 : Int32) (x3 : Int32) : Option (Int32) := og (ixb ((x1 * ((x2 - (1 : Int32)) - x3)) - (x1 * ((x2 - (1 : Int32)) - x3)) / (255 : Int32) * (255 : Int32)) 512) (some (v_powers (Int32.toNatClampNeg ((x1 * ((x2 - (1 : Int32)) - x3)) - (x1 * ((x2 - (1 : Int32)) - x3)) / (255 : Int32) * (255 : Int32)))))
set_option maxHeartbeats 4000000 in
set_option maxRecDepth 100000 in
theorem ct_X10_power (l : Launch) (D : va_G) (cB cI cZ : ClassId) (tw : Nat) (av : Nat → Nat) (a_this : Nat) (v_thrown : Int32) (v_size : Int32) (v_begins : Int32) (v_entries : Int32) (v_length : Int32) (v_pressed : Int32) (v_streamFrames : Int32) (v_zeros : Int32) (v_level : Int32) (v_sum : Int32) (v_tail : Int32) (v_isPlayed : Int32) (v_found : Int32) (v_strange : Int32) (v_innerFails : Int32) (v_outerFails : Int32) (v_mostMarks : Int32) (v_unsure : Int32) (v_may : Int32) (v_mocks : Int32) (v_sumThen : Int32) (v_powers : Nat → Int32) (x1 : Int32) (x2 : Int32) (x3 : Int32) (res : Int32) (h : fX10_power v_powers x1 x2 x3 = some res) : Ctr l yX10_power cX10_power 4 (some .int) (rmK 0 0) D (tyL cB cI cZ) tw [.ref a_this, .int x1, .int x2, .int x3] (wX10_power cB cI cZ av a_this v_thrown v_size v_begins v_entries v_length v_pressed v_streamFrames v_zeros v_level v_sum v_tail v_isPlayed v_found v_strange v_innerFails v_outerFails v_mostMarks v_unsure v_may v_mocks v_sumThen v_powers) (fun res : Int32 => some (.int res)) (fun res : Int32 => (wX10_power cB cI cZ av a_this v_thrown v_size v_begins v_entries v_length v_pressed v_streamFrames v_zeros v_level v_sum v_tail v_isPlayed v_found v_strange v_innerFails v_outerFails v_mostMarks v_unsure v_may v_mocks v_sumThen v_powers)) res := by
  refine ctr_of RX10 (by decide) rfl (Nat.le_of_ble_eq_true rfl) ?_
  intro p e s m below meth c A C hw ls hl
  have hx := C.1
  have hb := C.2.1
  have hl : lv_has ls 4 [(0, .ref a_this), (1, .int x1), (2, .int x2), (3, .int x3)] := hl
  unfold fX10_power at h
  refine lv_aload_n (pc := 0) hx hb dX10_power_0 rfl (lv_at hl 0 rfl) ?_
  refine gf_X10_16 (pc := 1) C hw 0 rfl rfl dX10_power_1 ?_
  refine lv_iload_n (pc := 4) hx hb dX10_power_4 rfl (lv_at hl 1 rfl) ?_
  refine lv_iload_n (pc := 5) hx hb dX10_power_5 rfl (lv_at hl 2 rfl) ?_
  refine lv_iconst (pc := 6) (v := 1) hx hb dX10_power_6 (by decide) ?_
  refine lv_isub (pc := 7) hx hb dX10_power_7 ?_
  refine lv_iload_n (pc := 8) hx hb dX10_power_8 rfl (lv_at hl 3 rfl) ?_
  refine lv_isub (pc := 9) hx hb dX10_power_9 ?_
  refine lv_imul (pc := 10) hx hb dX10_power_10 ?_
  refine lv_sipush (pc := 11) (v := 255) hx hb dX10_power_11 (by decide) ?_
  refine lv_irem (pc := 14) hx hb dX10_power_14 (by decide) ?_
  obtain ⟨hi_1, h⟩ := og_at h
  refine x_iald (pc := 15) C hw 1 rfl hi_1 dX10_power_15 ?_
  exact x_iret (pc := 16) (v := (v_powers (Int32.toNatClampNeg ((x1 * ((x2 - (1 : Int32)) - x3)) - (x1 * ((x2 - (1 : Int32)) - x3)) / (255 : Int32) * (255 : Int32))))) C (Option.some.inj h) rfl hw dX10_power_16
def wX10_findSyndromes (cB cI cZ : ClassId) (av : Nat → Nat) (a_this : Nat) (v_thrown : Int32) (v_size : Int32) (v_begins : Int32) (v_entries : Int32) (v_length : Int32) (v_pressed : Int32) (v_streamFrames : Int32) (v_zeros : Int32) (v_level : Int32) (v_sum : Int32) (v_tail : Int32) (v_isPlayed : Int32) (v_found : Int32) (v_strange : Int32) (v_innerFails : Int32) (v_outerFails : Int32) (v_mostMarks : Int32) (v_unsure : Int32) (v_may : Int32) (v_mocks : Int32) (v_sumThen : Int32) (v_logs : Nat → Int32) (v_powers : Nat → Int32) (v_syndromes : Nat → Int32) (v_word : Nat → Int32) : va_W := [oX10 a_this av v_thrown v_size v_begins v_entries v_length v_pressed v_streamFrames v_zeros v_level v_sum v_tail v_isPlayed v_found v_strange v_innerFails v_outerFails v_mostMarks v_unsure v_may v_mocks v_sumThen, ((av 4), .inl (cI, 256, .inl v_logs)), ((av 3), .inl (cI, 512, .inl v_powers)), ((av 24), .inl (cI, 4, .inl v_syndromes)), ((av 22), .inl (cI, 32, .inl v_word))]
def fX10_findSyndromes_L12 (x1 : Int32) (j46_6 : Int32 → Option ((Nat → Int32))) (v_powers : Nat → Int32) (x2_1 : Int32) (v_logs : Nat → Int32) (v_word : Nat → Int32) : Nat → Int32 → Int32 → Option ((Nat → Int32))
  | 0, _, _ => none
  | F12_12 + 1, x4_10, x3_11 => if x1 ≤ x4_10 then j46_6 x3_11 else og (ixb x4_10 32) (ob1 (fX10_power v_powers x2_1 x1 x4_10) fun r_15 => ob1 (fX10_times v_logs v_powers (v_word (Int32.toNatClampNeg x4_10)) r_15) fun r_17 => nm ((x3_11 ^^^ r_17) : Int32) fun x3_19 => nm (x4_10 + 1 : Int32) fun x4_20 => fX10_findSyndromes_L12 x1 j46_6 v_powers x2_1 v_logs v_word F12_12 x4_20 x3_19)
def fX10_findSyndromes_L2 (x1 : Int32) (v_powers : Nat → Int32) (v_logs : Nat → Int32) (v_word : Nat → Int32) : Nat → Int32 → (Nat → Int32) → Option ((Nat → Int32))
  | 0, _, _ => none
  | F2_3 + 1, x2_1, v_syndromes_2 => if (4 : Int32) ≤ x2_1 then some v_syndromes_2 else jk (fun (x3_5 : Int32) => og (ixb x2_1 4) (nm (upd v_syndromes_2 (Int32.toNatClampNeg x2_1) x3_5) fun v_syndromes_8 => nm (x2_1 + 1 : Int32) fun x2_9 => fX10_findSyndromes_L2 x1 v_powers v_logs v_word F2_3 x2_9 v_syndromes_8)) fun j46_6 => fX10_findSyndromes_L12 x1 j46_6 v_powers x2_1 v_logs v_word FU 0 0
def fX10_findSyndromes (v_logs : Nat → Int32) (v_powers : Nat → Int32) (v_syndromes : Nat → Int32) (v_word : Nat → Int32) (x1 : Int32) : Option ((Nat → Int32)) := fX10_findSyndromes_L2 x1 v_powers v_logs v_word FU 0 v_syndromes
set_option maxHeartbeats 4000000 in
set_option maxRecDepth 100000 in
theorem ct_X10_findSyndromes (l : Launch) (D : va_G) (cB cI cZ : ClassId) (tw : Nat) (av : Nat → Nat) (a_this : Nat) (v_thrown : Int32) (v_size : Int32) (v_begins : Int32) (v_entries : Int32) (v_length : Int32) (v_pressed : Int32) (v_streamFrames : Int32) (v_zeros : Int32) (v_level : Int32) (v_sum : Int32) (v_tail : Int32) (v_isPlayed : Int32) (v_found : Int32) (v_strange : Int32) (v_innerFails : Int32) (v_outerFails : Int32) (v_mostMarks : Int32) (v_unsure : Int32) (v_may : Int32) (v_mocks : Int32) (v_sumThen : Int32) (v_logs : Nat → Int32) (v_powers : Nat → Int32) (v_syndromes : Nat → Int32) (v_word : Nat → Int32) (x1 : Int32) (res : (Nat → Int32)) (h : fX10_findSyndromes v_logs v_powers v_syndromes v_word x1 = some res) : Ctr l yX10_findSyndromes cX10_findSyndromes 5 none (rmK 1 23) D (tyL cB cI cZ) tw [.ref a_this, .int x1] (wX10_findSyndromes cB cI cZ av a_this v_thrown v_size v_begins v_entries v_length v_pressed v_streamFrames v_zeros v_level v_sum v_tail v_isPlayed v_found v_strange v_innerFails v_outerFails v_mostMarks v_unsure v_may v_mocks v_sumThen v_logs v_powers v_syndromes v_word) (fun _ : (Nat → Int32) => none) (fun res : (Nat → Int32) => (wX10_findSyndromes cB cI cZ av a_this v_thrown v_size v_begins v_entries v_length v_pressed v_streamFrames v_zeros v_level v_sum v_tail v_isPlayed v_found v_strange v_innerFails v_outerFails v_mostMarks v_unsure v_may v_mocks v_sumThen v_logs v_powers res v_word)) res := by
  refine ctr_of RX10 (by decide) rfl (Nat.le_of_ble_eq_true rfl) ?_
  intro p e s m below meth c A C hw ls hl
  have hx := C.1
  have hb := C.2.1
  have hl : lv_has ls 5 [(0, .ref a_this), (1, .int x1)] := hl
  unfold fX10_findSyndromes at h
  refine lv_iconst (pc := 0) (v := 0) hx hb dX10_findSyndromes_0 (by decide) ?_
  refine lv_istore_n (pc := 1) (lv' := [(2, .int 0), (0, .ref a_this), (1, .int x1)]) hx hb dX10_findSyndromes_1 rfl hl (by decide) rfl (fun ls hl => ?_)
  have Lih2_3 : ∀ (F : Nat) (x2_1 : Int32) (v_syndromes_2 : Nat → Int32) (ls : Array Slot) (H : Heap) (locs : List Loc), lv_has ls 5 [(2, .int x2_1), (0, .ref a_this), (1, .int x1)] → Wd D A s (wX10_findSyndromes cB cI cZ av a_this v_thrown v_size v_begins v_entries v_length v_pressed v_streamFrames v_zeros v_level v_sum v_tail v_isPlayed v_found v_strange v_innerFails v_outerFails v_mostMarks v_unsure v_may v_mocks v_sumThen v_logs v_powers v_syndromes_2 v_word) H locs → fX10_findSyndromes_L2 x1 v_powers v_logs v_word F x2_1 v_syndromes_2 = some res → W p l e (rmK 1 23) s m ([.ref a_this, .int x1] : List Value).toArray below meth c H locs 0 0 (MQ below (QG D (tyL cB cI cZ) A (fun _ : (Nat → Int32) => none) (fun res : (Nat → Int32) => (wX10_findSyndromes cB cI cZ av a_this v_thrown v_size v_begins v_entries v_length v_pressed v_streamFrames v_zeros v_level v_sum v_tail v_isPlayed v_found v_strange v_innerFails v_outerFails v_mostMarks v_unsure v_may v_mocks v_sumThen v_logs v_powers res v_word)) res) ([.ref a_this, .int x1] : List Value).toArray s 0 0 A) (F0 m 2 ls []) := by
    intro F
    induction F with
    | zero => intro x2_1 v_syndromes_2 ls H locs hl hw h; rw [fX10_findSyndromes_L2.eq_1] at h; cases h
    | succ F2_3 ih2_3 =>
      intro x2_1 v_syndromes_2 ls H locs hl hw h
      rw [fX10_findSyndromes_L2.eq_2] at h
      refine lv_iload_n (pc := 2) hx hb dX10_findSyndromes_2 rfl (lv_at hl 0 rfl) ?_
      refine lv_iconst (pc := 3) (v := 4) hx hb dX10_findSyndromes_3 (by decide) ?_
      refine lv_icmp_ge (pc := 4) (tgt := 59) hx hb dX10_findSyndromes_4 (by decide) (fun hc_4 => ?_) (fun hc_4 => ?_)
      · have h := ift hc_4 h
        exact x_vret (pc := 59) (v := v_syndromes_2) C (Option.some.inj h) rfl hw dX10_findSyndromes_59
      · have h := iff' hc_4 h
        refine lv_iconst (pc := 7) (v := 0) hx hb dX10_findSyndromes_7 (by decide) ?_
        refine lv_istore_n (pc := 8) (lv' := [(3, .int 0), (2, .int x2_1), (0, .ref a_this), (1, .int x1)]) hx hb dX10_findSyndromes_8 rfl hl (by decide) rfl (fun ls hl => ?_)
        refine lv_iconst (pc := 9) (v := 0) hx hb dX10_findSyndromes_9 (by decide) ?_
        refine lv_istore (pc := 10) (lv' := [(4, .int 0), (3, .int 0), (2, .int x2_1), (0, .ref a_this), (1, .int x1)]) hx hb dX10_findSyndromes_10 hl (by decide) rfl (fun ls hl => ?_)
        obtain ⟨j46_6, ej46_6, h⟩ := jk_at h
        have J46_6 : ∀ (x3_5 : Int32) (ls : Array Slot) (H : Heap) (locs : List Loc), lv_has ls 5 [(3, .int x3_5), (2, .int x2_1), (0, .ref a_this), (1, .int x1)] → Wd D A s (wX10_findSyndromes cB cI cZ av a_this v_thrown v_size v_begins v_entries v_length v_pressed v_streamFrames v_zeros v_level v_sum v_tail v_isPlayed v_found v_strange v_innerFails v_outerFails v_mostMarks v_unsure v_may v_mocks v_sumThen v_logs v_powers v_syndromes_2 v_word) H locs → j46_6 x3_5 = some res → W p l e (rmK 1 23) s m ([.ref a_this, .int x1] : List Value).toArray below meth c H locs 0 0 (MQ below (QG D (tyL cB cI cZ) A (fun _ : (Nat → Int32) => none) (fun res : (Nat → Int32) => (wX10_findSyndromes cB cI cZ av a_this v_thrown v_size v_begins v_entries v_length v_pressed v_streamFrames v_zeros v_level v_sum v_tail v_isPlayed v_found v_strange v_innerFails v_outerFails v_mostMarks v_unsure v_may v_mocks v_sumThen v_logs v_powers res v_word)) res) ([.ref a_this, .int x1] : List Value).toArray s 0 0 A) (F0 m 46 ls []) := by
          intro x3_5 ls H locs hl hw h
          have h := k1_at ej46_6 h
          refine lv_aload_n (pc := 46) hx hb dX10_findSyndromes_46 rfl (lv_at hl 2 rfl) ?_
          refine gf_X10_52 (pc := 47) C hw 0 rfl rfl dX10_findSyndromes_47 ?_
          refine lv_iload_n (pc := 50) hx hb dX10_findSyndromes_50 rfl (lv_at hl 1 rfl) ?_
          refine lv_iload_n (pc := 51) hx hb dX10_findSyndromes_51 rfl (lv_at hl 0 rfl) ?_
          obtain ⟨hi_7, h⟩ := og_at h
          obtain ⟨v_syndromes_8, ev_syndromes_8⟩ : ∃ y : Nat → Int32, y = upd v_syndromes_2 (Int32.toNatClampNeg x2_1) x3_5 := ⟨_, rfl⟩
          have h := nm_at ev_syndromes_8 h
          refine x_iast (pc := 52) (wX10_findSyndromes cB cI cZ av a_this v_thrown v_size v_begins v_entries v_length v_pressed v_streamFrames v_zeros v_level v_sum v_tail v_isPlayed v_found v_strange v_innerFails v_outerFails v_mostMarks v_unsure v_may v_mocks v_sumThen v_logs v_powers v_syndromes_8 v_word) C hw 3 rfl hi_7 (by rw [ev_syndromes_8]; rfl) dX10_findSyndromes_52 (fun H locs hw => ?_)
          obtain ⟨x2_9, ex2_9⟩ : ∃ y : Int32, y = x2_1 + 1 := ⟨_, rfl⟩
          have h := nm_at ex2_9 h
          refine lv_iinc (pc := 53) (v := x2_9) (lv' := [(2, .int x2_9), (3, .int x3_5), (0, .ref a_this), (1, .int x1)]) hx hb dX10_findSyndromes_53 hl (k := 1) rfl (by rw [ex2_9]; rfl) (by decide) rfl (fun ls hl => ?_)
          refine lv_goto (pc := 56) (tgt := 2) hx hb dX10_findSyndromes_56 (by decide) ?_
          exact ih2_3 x2_9 v_syndromes_8 ls _ _ (lv_sub hl [0, 2, 3] rfl) hw h
        have Lih12_12 : ∀ (F : Nat) (x4_10 : Int32) (x3_11 : Int32) (ls : Array Slot) (H : Heap) (locs : List Loc), lv_has ls 5 [(4, .int x4_10), (3, .int x3_11), (2, .int x2_1), (0, .ref a_this), (1, .int x1)] → Wd D A s (wX10_findSyndromes cB cI cZ av a_this v_thrown v_size v_begins v_entries v_length v_pressed v_streamFrames v_zeros v_level v_sum v_tail v_isPlayed v_found v_strange v_innerFails v_outerFails v_mostMarks v_unsure v_may v_mocks v_sumThen v_logs v_powers v_syndromes_2 v_word) H locs → fX10_findSyndromes_L12 x1 j46_6 v_powers x2_1 v_logs v_word F x4_10 x3_11 = some res → W p l e (rmK 1 23) s m ([.ref a_this, .int x1] : List Value).toArray below meth c H locs 0 0 (MQ below (QG D (tyL cB cI cZ) A (fun _ : (Nat → Int32) => none) (fun res : (Nat → Int32) => (wX10_findSyndromes cB cI cZ av a_this v_thrown v_size v_begins v_entries v_length v_pressed v_streamFrames v_zeros v_level v_sum v_tail v_isPlayed v_found v_strange v_innerFails v_outerFails v_mostMarks v_unsure v_may v_mocks v_sumThen v_logs v_powers res v_word)) res) ([.ref a_this, .int x1] : List Value).toArray s 0 0 A) (F0 m 12 ls []) := by
          intro F
          induction F with
          | zero => intro x4_10 x3_11 ls H locs hl hw h; rw [fX10_findSyndromes_L12.eq_1] at h; cases h
          | succ F12_12 ih12_12 =>
            intro x4_10 x3_11 ls H locs hl hw h
            rw [fX10_findSyndromes_L12.eq_2] at h
            refine lv_iload (pc := 12) hx hb dX10_findSyndromes_12 (lv_at hl 0 rfl) ?_
            refine lv_iload_n (pc := 14) hx hb dX10_findSyndromes_14 rfl (lv_at hl 4 rfl) ?_
            refine lv_icmp_ge (pc := 15) (tgt := 46) hx hb dX10_findSyndromes_15 (by decide) (fun hc_13 => ?_) (fun hc_13 => ?_)
            · have h := ift hc_13 h
              exact J46_6 x3_11 ls _ _ (lv_sub hl [1, 2, 3, 4] rfl) hw h
            · have h := iff' hc_13 h
              refine lv_iload_n (pc := 18) hx hb dX10_findSyndromes_18 rfl (lv_at hl 1 rfl) ?_
              refine lv_aload_n (pc := 19) hx hb dX10_findSyndromes_19 rfl (lv_at hl 3 rfl) ?_
              refine lv_aload_n (pc := 20) hx hb dX10_findSyndromes_20 rfl (lv_at hl 3 rfl) ?_
              refine gf_X10_45 (pc := 21) C hw 0 rfl rfl dX10_findSyndromes_21 ?_
              refine lv_iload (pc := 24) hx hb dX10_findSyndromes_24 (lv_at hl 0 rfl) ?_
              obtain ⟨hi_14, h⟩ := og_at h
              refine x_iald (pc := 26) C hw 4 rfl hi_14 dX10_findSyndromes_26 ?_
              refine lv_aload_n (pc := 27) hx hb dX10_findSyndromes_27 rfl (lv_at hl 3 rfl) ?_
              refine lv_iload_n (pc := 28) hx hb dX10_findSyndromes_28 rfl (lv_at hl 2 rfl) ?_
              refine lv_iload_n (pc := 29) hx hb dX10_findSyndromes_29 rfl (lv_at hl 4 rfl) ?_
              refine lv_iload (pc := 30) hx hb dX10_findSyndromes_30 (lv_at hl 0 rfl) ?_
              obtain ⟨r_15, hq_16, h⟩ := ob1_at h
              refine x_callV (pc := 32) (rest := [.int (v_word (Int32.toNatClampNeg x4_10)), .ref a_this, .int x3_11]) (stk := [.int r_15, .int (v_word (Int32.toNatClampNeg x4_10)), .ref a_this, .int x3_11]) (wX10_findSyndromes cB cI cZ av a_this v_thrown v_size v_begins v_entries v_length v_pressed v_streamFrames v_zeros v_level v_sum v_tail v_isPlayed v_found v_strange v_innerFails v_outerFails v_mostMarks v_unsure v_may v_mocks v_sumThen v_logs v_powers v_syndromes_2 v_word) C hw (ct_X10_power l D cB cI cZ tw av a_this v_thrown v_size v_begins v_entries v_length v_pressed v_streamFrames v_zeros v_level v_sum v_tail v_isPlayed v_found v_strange v_innerFails v_outerFails v_mostMarks v_unsure v_may v_mocks v_sumThen v_powers x2_1 x1 x4_10 r_15 hq_16) cal_X10_power tw_1240 (q0 := 0) rfl rfl [0, 2] [1, 3, 4] 5 [((av 4), .inl (cI, 256, .inl v_logs)), ((av 24), .inl (cI, 4, .inl v_syndromes_2)), ((av 22), .inl (cI, 32, .inl v_word))] rfl rfl rfl rfl rfl rfl rfl rfl rfl rfl rfl (Nat.le_of_ble_eq_true rfl) hl.1 ⟨Nat.le_of_ble_eq_true rfl, Nat.le_of_ble_eq_true rfl⟩ ⟨Nat.zero_le _, Nat.zero_le _⟩ dX10_findSyndromes_32 (fun H locs hw => ?_)
              obtain ⟨r_17, hq_18, h⟩ := ob1_at h
              refine x_callV (pc := 35) (rest := [.int x3_11]) (stk := [.int r_17, .int x3_11]) (wX10_findSyndromes cB cI cZ av a_this v_thrown v_size v_begins v_entries v_length v_pressed v_streamFrames v_zeros v_level v_sum v_tail v_isPlayed v_found v_strange v_innerFails v_outerFails v_mostMarks v_unsure v_may v_mocks v_sumThen v_logs v_powers v_syndromes_2 v_word) C hw (ct_X10_times l D cB cI cZ tw av a_this v_thrown v_size v_begins v_entries v_length v_pressed v_streamFrames v_zeros v_level v_sum v_tail v_isPlayed v_found v_strange v_innerFails v_outerFails v_mostMarks v_unsure v_may v_mocks v_sumThen v_logs v_powers (v_word (Int32.toNatClampNeg x4_10)) r_15 r_17 hq_18) cal_X10_times tw_1244 (q0 := 0) rfl rfl [0, 1, 2] [3, 4] 5 [((av 24), .inl (cI, 4, .inl v_syndromes_2)), ((av 22), .inl (cI, 32, .inl v_word))] rfl rfl rfl rfl rfl rfl rfl rfl rfl rfl rfl (Nat.le_of_ble_eq_true rfl) hl.1 ⟨Nat.le_of_ble_eq_true rfl, Nat.le_of_ble_eq_true rfl⟩ ⟨Nat.zero_le _, Nat.zero_le _⟩ dX10_findSyndromes_35 (fun H locs hw => ?_)
              refine lv_ixor (pc := 38) hx hb dX10_findSyndromes_38 ?_
              refine lv_topi (pc := 39) (fun x3_19 ex3_19 => ?_)
              have h := nm_at ex3_19 h
              refine lv_istore_n (pc := 39) (lv' := [(3, .int x3_19), (4, .int x4_10), (2, .int x2_1), (0, .ref a_this), (1, .int x1)]) hx hb dX10_findSyndromes_39 rfl hl (by decide) rfl (fun ls hl => ?_)
              obtain ⟨x4_20, ex4_20⟩ : ∃ y : Int32, y = x4_10 + 1 := ⟨_, rfl⟩
              have h := nm_at ex4_20 h
              refine lv_iinc (pc := 40) (v := x4_20) (lv' := [(4, .int x4_20), (3, .int x3_19), (2, .int x2_1), (0, .ref a_this), (1, .int x1)]) hx hb dX10_findSyndromes_40 hl (k := 1) rfl (by rw [ex4_20]; rfl) (by decide) rfl (fun ls hl => ?_)
              refine lv_goto (pc := 43) (tgt := 12) hx hb dX10_findSyndromes_43 (by decide) ?_
              exact ih12_12 x4_20 x3_19 ls _ _ (lv_sub hl [0, 1, 2, 3, 4] rfl) hw h
        exact Lih12_12 FU 0 0 ls _ _ (lv_sub hl [0, 1, 2, 3, 4] rfl) hw h
  exact Lih2_3 FU 0 v_syndromes ls _ _ (lv_sub hl [0, 1, 2] rfl) hw h
def wX10_swapRows (cB cI cZ : ClassId) (av : Nat → Nat) (a_this : Nat) (v_thrown : Int32) (v_size : Int32) (v_begins : Int32) (v_entries : Int32) (v_length : Int32) (v_pressed : Int32) (v_streamFrames : Int32) (v_zeros : Int32) (v_level : Int32) (v_sum : Int32) (v_tail : Int32) (v_isPlayed : Int32) (v_found : Int32) (v_strange : Int32) (v_innerFails : Int32) (v_outerFails : Int32) (v_mostMarks : Int32) (v_unsure : Int32) (v_may : Int32) (v_mocks : Int32) (v_sumThen : Int32) (v_rows : Nat → Int32) : va_W := [oX10 a_this av v_thrown v_size v_begins v_entries v_length v_pressed v_streamFrames v_zeros v_level v_sum v_tail v_isPlayed v_found v_strange v_innerFails v_outerFails v_mostMarks v_unsure v_may v_mocks v_sumThen, ((av 27), .inl (cI, 20, .inl v_rows))]
def fX10_swapRows_L2 (x1 : Int32) (x2 : Int32) : Nat → Int32 → (Nat → Int32) → Option ((Nat → Int32))
  | 0, _, _ => none
  | F2_3 + 1, x3_1, v_rows_2 => if (5 : Int32) ≤ x3_1 then some v_rows_2 else og (ixb (((5 : Int32) * x1) + x3_1) 20) (nm ((v_rows_2 (Int32.toNatClampNeg (((5 : Int32) * x1) + x3_1))) : Int32) fun x4_6 => og (ixb (((5 : Int32) * x2) + x3_1) 20) (og (ixb (((5 : Int32) * x1) + x3_1) 20) (nm (upd v_rows_2 (Int32.toNatClampNeg (((5 : Int32) * x1) + x3_1)) (v_rows_2 (Int32.toNatClampNeg (((5 : Int32) * x2) + x3_1)))) fun v_rows_9 => og (ixb (((5 : Int32) * x2) + x3_1) 20) (nm (upd v_rows_9 (Int32.toNatClampNeg (((5 : Int32) * x2) + x3_1)) x4_6) fun v_rows_11 => nm (x3_1 + 1 : Int32) fun x3_12 => fX10_swapRows_L2 x1 x2 F2_3 x3_12 v_rows_11))))
def fX10_swapRows (v_rows : Nat → Int32) (x1 : Int32) (x2 : Int32) : Option ((Nat → Int32)) := fX10_swapRows_L2 x1 x2 FU 0 v_rows
set_option maxHeartbeats 4000000 in
set_option maxRecDepth 100000 in
theorem ct_X10_swapRows (l : Launch) (D : va_G) (cB cI cZ : ClassId) (tw : Nat) (av : Nat → Nat) (a_this : Nat) (v_thrown : Int32) (v_size : Int32) (v_begins : Int32) (v_entries : Int32) (v_length : Int32) (v_pressed : Int32) (v_streamFrames : Int32) (v_zeros : Int32) (v_level : Int32) (v_sum : Int32) (v_tail : Int32) (v_isPlayed : Int32) (v_found : Int32) (v_strange : Int32) (v_innerFails : Int32) (v_outerFails : Int32) (v_mostMarks : Int32) (v_unsure : Int32) (v_may : Int32) (v_mocks : Int32) (v_sumThen : Int32) (v_rows : Nat → Int32) (x1 : Int32) (x2 : Int32) (res : (Nat → Int32)) (h : fX10_swapRows v_rows x1 x2 = some res) : Ctr l yX10_swapRows cX10_swapRows 5 none (rmK 0 0) D (tyL cB cI cZ) tw [.ref a_this, .int x1, .int x2] (wX10_swapRows cB cI cZ av a_this v_thrown v_size v_begins v_entries v_length v_pressed v_streamFrames v_zeros v_level v_sum v_tail v_isPlayed v_found v_strange v_innerFails v_outerFails v_mostMarks v_unsure v_may v_mocks v_sumThen v_rows) (fun _ : (Nat → Int32) => none) (fun res : (Nat → Int32) => (wX10_swapRows cB cI cZ av a_this v_thrown v_size v_begins v_entries v_length v_pressed v_streamFrames v_zeros v_level v_sum v_tail v_isPlayed v_found v_strange v_innerFails v_outerFails v_mostMarks v_unsure v_may v_mocks v_sumThen res)) res := by
  refine ctr_of RX10 (by decide) rfl (Nat.le_of_ble_eq_true rfl) ?_
  intro p e s m below meth c A C hw ls hl
  have hx := C.1
  have hb := C.2.1
  have hl : lv_has ls 5 [(0, .ref a_this), (1, .int x1), (2, .int x2)] := hl
  unfold fX10_swapRows at h
  refine lv_iconst (pc := 0) (v := 0) hx hb dX10_swapRows_0 (by decide) ?_
  refine lv_istore_n (pc := 1) (lv' := [(3, .int 0), (0, .ref a_this), (1, .int x1), (2, .int x2)]) hx hb dX10_swapRows_1 rfl hl (by decide) rfl (fun ls hl => ?_)
  have Lih2_3 : ∀ (F : Nat) (x3_1 : Int32) (v_rows_2 : Nat → Int32) (ls : Array Slot) (H : Heap) (locs : List Loc), lv_has ls 5 [(3, .int x3_1), (0, .ref a_this), (1, .int x1), (2, .int x2)] → Wd D A s (wX10_swapRows cB cI cZ av a_this v_thrown v_size v_begins v_entries v_length v_pressed v_streamFrames v_zeros v_level v_sum v_tail v_isPlayed v_found v_strange v_innerFails v_outerFails v_mostMarks v_unsure v_may v_mocks v_sumThen v_rows_2) H locs → fX10_swapRows_L2 x1 x2 F x3_1 v_rows_2 = some res → W p l e (rmK 0 0) s m ([.ref a_this, .int x1, .int x2] : List Value).toArray below meth c H locs 0 0 (MQ below (QG D (tyL cB cI cZ) A (fun _ : (Nat → Int32) => none) (fun res : (Nat → Int32) => (wX10_swapRows cB cI cZ av a_this v_thrown v_size v_begins v_entries v_length v_pressed v_streamFrames v_zeros v_level v_sum v_tail v_isPlayed v_found v_strange v_innerFails v_outerFails v_mostMarks v_unsure v_may v_mocks v_sumThen res)) res) ([.ref a_this, .int x1, .int x2] : List Value).toArray s 0 0 A) (F0 m 2 ls []) := by
    intro F
    induction F with
    | zero => intro x3_1 v_rows_2 ls H locs hl hw h; rw [fX10_swapRows_L2.eq_1] at h; cases h
    | succ F2_3 ih2_3 =>
      intro x3_1 v_rows_2 ls H locs hl hw h
      rw [fX10_swapRows_L2.eq_2] at h
      refine lv_iload_n (pc := 2) hx hb dX10_swapRows_2 rfl (lv_at hl 0 rfl) ?_
      refine lv_iconst (pc := 3) (v := 5) hx hb dX10_swapRows_3 (by decide) ?_
      refine lv_icmp_ge (pc := 4) (tgt := 57) hx hb dX10_swapRows_4 (by decide) (fun hc_4 => ?_) (fun hc_4 => ?_)
      · have h := ift hc_4 h
        exact x_vret (pc := 57) (v := v_rows_2) C (Option.some.inj h) rfl hw dX10_swapRows_57
      · have h := iff' hc_4 h
        refine lv_aload_n (pc := 7) hx hb dX10_swapRows_7 rfl (lv_at hl 1 rfl) ?_
        refine gf_X10_61 (pc := 8) C hw 0 rfl rfl dX10_swapRows_8 ?_
        refine lv_iconst (pc := 11) (v := 5) hx hb dX10_swapRows_11 (by decide) ?_
        refine lv_iload_n (pc := 12) hx hb dX10_swapRows_12 rfl (lv_at hl 2 rfl) ?_
        refine lv_imul (pc := 13) hx hb dX10_swapRows_13 ?_
        refine lv_iload_n (pc := 14) hx hb dX10_swapRows_14 rfl (lv_at hl 0 rfl) ?_
        refine lv_iadd (pc := 15) hx hb dX10_swapRows_15 ?_
        obtain ⟨hi_5, h⟩ := og_at h
        refine x_iald (pc := 16) C hw 1 rfl hi_5 dX10_swapRows_16 ?_
        refine lv_topi (pc := 17) (fun x4_6 ex4_6 => ?_)
        have h := nm_at ex4_6 h
        refine lv_istore (pc := 17) (lv' := [(4, .int x4_6), (3, .int x3_1), (0, .ref a_this), (1, .int x1), (2, .int x2)]) hx hb dX10_swapRows_17 hl (by decide) rfl (fun ls hl => ?_)
        refine lv_aload_n (pc := 19) hx hb dX10_swapRows_19 rfl (lv_at hl 2 rfl) ?_
        refine gf_X10_61 (pc := 20) C hw 0 rfl rfl dX10_swapRows_20 ?_
        refine lv_iconst (pc := 23) (v := 5) hx hb dX10_swapRows_23 (by decide) ?_
        refine lv_iload_n (pc := 24) hx hb dX10_swapRows_24 rfl (lv_at hl 3 rfl) ?_
        refine lv_imul (pc := 25) hx hb dX10_swapRows_25 ?_
        refine lv_iload_n (pc := 26) hx hb dX10_swapRows_26 rfl (lv_at hl 1 rfl) ?_
        refine lv_iadd (pc := 27) hx hb dX10_swapRows_27 ?_
        refine lv_aload_n (pc := 28) hx hb dX10_swapRows_28 rfl (lv_at hl 2 rfl) ?_
        refine gf_X10_61 (pc := 29) C hw 0 rfl rfl dX10_swapRows_29 ?_
        refine lv_iconst (pc := 32) (v := 5) hx hb dX10_swapRows_32 (by decide) ?_
        refine lv_iload_n (pc := 33) hx hb dX10_swapRows_33 rfl (lv_at hl 4 rfl) ?_
        refine lv_imul (pc := 34) hx hb dX10_swapRows_34 ?_
        refine lv_iload_n (pc := 35) hx hb dX10_swapRows_35 rfl (lv_at hl 1 rfl) ?_
        refine lv_iadd (pc := 36) hx hb dX10_swapRows_36 ?_
        obtain ⟨hi_7, h⟩ := og_at h
        refine x_iald (pc := 37) C hw 1 rfl hi_7 dX10_swapRows_37 ?_
        obtain ⟨hi_8, h⟩ := og_at h
        obtain ⟨v_rows_9, ev_rows_9⟩ : ∃ y : Nat → Int32, y = upd v_rows_2 (Int32.toNatClampNeg (((5 : Int32) * x1) + x3_1)) (v_rows_2 (Int32.toNatClampNeg (((5 : Int32) * x2) + x3_1))) := ⟨_, rfl⟩
        have h := nm_at ev_rows_9 h
        refine x_iast (pc := 38) (wX10_swapRows cB cI cZ av a_this v_thrown v_size v_begins v_entries v_length v_pressed v_streamFrames v_zeros v_level v_sum v_tail v_isPlayed v_found v_strange v_innerFails v_outerFails v_mostMarks v_unsure v_may v_mocks v_sumThen v_rows_9) C hw 1 rfl hi_8 (by rw [ev_rows_9]; rfl) dX10_swapRows_38 (fun H locs hw => ?_)
        refine lv_aload_n (pc := 39) hx hb dX10_swapRows_39 rfl (lv_at hl 2 rfl) ?_
        refine gf_X10_61 (pc := 40) C hw 0 rfl rfl dX10_swapRows_40 ?_
        refine lv_iconst (pc := 43) (v := 5) hx hb dX10_swapRows_43 (by decide) ?_
        refine lv_iload_n (pc := 44) hx hb dX10_swapRows_44 rfl (lv_at hl 4 rfl) ?_
        refine lv_imul (pc := 45) hx hb dX10_swapRows_45 ?_
        refine lv_iload_n (pc := 46) hx hb dX10_swapRows_46 rfl (lv_at hl 1 rfl) ?_
        refine lv_iadd (pc := 47) hx hb dX10_swapRows_47 ?_
        refine lv_iload (pc := 48) hx hb dX10_swapRows_48 (lv_at hl 0 rfl) ?_
        obtain ⟨hi_10, h⟩ := og_at h
        obtain ⟨v_rows_11, ev_rows_11⟩ : ∃ y : Nat → Int32, y = upd v_rows_9 (Int32.toNatClampNeg (((5 : Int32) * x2) + x3_1)) x4_6 := ⟨_, rfl⟩
        have h := nm_at ev_rows_11 h
        refine x_iast (pc := 50) (wX10_swapRows cB cI cZ av a_this v_thrown v_size v_begins v_entries v_length v_pressed v_streamFrames v_zeros v_level v_sum v_tail v_isPlayed v_found v_strange v_innerFails v_outerFails v_mostMarks v_unsure v_may v_mocks v_sumThen v_rows_11) C hw 1 rfl hi_10 (by rw [ev_rows_11]; rfl) dX10_swapRows_50 (fun H locs hw => ?_)
        obtain ⟨x3_12, ex3_12⟩ : ∃ y : Int32, y = x3_1 + 1 := ⟨_, rfl⟩
        have h := nm_at ex3_12 h
        refine lv_iinc (pc := 51) (v := x3_12) (lv' := [(3, .int x3_12), (4, .int x4_6), (0, .ref a_this), (1, .int x1), (2, .int x2)]) hx hb dX10_swapRows_51 hl (k := 1) rfl (by rw [ex3_12]; rfl) (by decide) rfl (fun ls hl => ?_)
        refine lv_goto (pc := 54) (tgt := 2) hx hb dX10_swapRows_54 (by decide) ?_
        exact ih2_3 x3_12 v_rows_11 ls _ _ (lv_sub hl [0, 2, 3, 4] rfl) hw h
  exact Lih2_3 FU 0 v_rows ls _ _ (lv_sub hl [0, 1, 2, 3] rfl) hw h
def wX10_fits (cB cI cZ : ClassId) (av : Nat → Nat) (a_this : Nat) (v_thrown : Int32) (v_size : Int32) (v_begins : Int32) (v_entries : Int32) (v_length : Int32) (v_pressed : Int32) (v_streamFrames : Int32) (v_zeros : Int32) (v_level : Int32) (v_sum : Int32) (v_tail : Int32) (v_isPlayed : Int32) (v_found : Int32) (v_strange : Int32) (v_innerFails : Int32) (v_outerFails : Int32) (v_mostMarks : Int32) (v_unsure : Int32) (v_may : Int32) (v_mocks : Int32) (v_sumThen : Int32) (v_logs : Nat → Int32) (v_places : Nat → Int32) (v_powers : Nat → Int32) (v_rows : Nat → Int32) (v_syndromes : Nat → Int32) (v_values : Nat → Int32) : va_W := [oX10 a_this av v_thrown v_size v_begins v_entries v_length v_pressed v_streamFrames v_zeros v_level v_sum v_tail v_isPlayed v_found v_strange v_innerFails v_outerFails v_mostMarks v_unsure v_may v_mocks v_sumThen, ((av 4), .inl (cI, 256, .inl v_logs)), ((av 25), .inl (cI, 4, .inl v_places)), ((av 3), .inl (cI, 512, .inl v_powers)), ((av 27), .inl (cI, 20, .inl v_rows)), ((av 24), .inl (cI, 4, .inl v_syndromes)), ((av 26), .inl (cI, 4, .inl v_values))]
def fX10_fits_L359 (x2 : Int32) (x3_5 : Int32) (v_rows_3 : Nat → Int32) : Nat → Int32 → (Nat → Int32) → Option (Int32 × (Nat → Int32) × (Nat → Int32))
  | 0, _, _ => none
  | F359_9 + 1, x4_7, v_values_8 => if x2 ≤ x4_7 then og (zb x3_5) (some (x3_5, v_rows_3, v_values_8)) else og (ixb (((5 : Int32) * x4_7) + (4 : Int32)) 20) (og (ixb x4_7 4) (nm (upd v_values_8 (Int32.toNatClampNeg x4_7) (v_rows_3 (Int32.toNatClampNeg (((5 : Int32) * x4_7) + (4 : Int32))))) fun v_values_14 => nm (x4_7 + 1 : Int32) fun x4_15 => fX10_fits_L359 x2 x3_5 v_rows_3 F359_9 x4_15 v_values_14))
def fX10_fits_L320 (j356_6 : Int32 → Option (Int32 × (Nat → Int32) × (Nat → Int32))) (v_rows_3 : Nat → Int32) : Nat → Int32 → Int32 → Option (Int32 × (Nat → Int32) × (Nat → Int32))
  | 0, _, _ => none
  | F320_18 + 1, x4_16, x3_17 => if (4 : Int32) ≤ x4_16 then j356_6 x3_17 else jk (fun (t_20 : Int32) => nm (x4_16 + 1 : Int32) fun x4_22 => fX10_fits_L320 j356_6 v_rows_3 F320_18 x4_22 t_20) fun j349_21 => jk (j349_21 0) fun j348_23 => if x3_17 = 0 then j348_23 else og (ixb (((5 : Int32) * x4_16) + (4 : Int32)) 20) (if (v_rows_3 (Int32.toNatClampNeg (((5 : Int32) * x4_16) + (4 : Int32)))) = 0 then j349_21 1 else j348_23)
def fX10_fits_L233 (j303_51 : (Nat → Int32) → Option (Int32 × (Nat → Int32) × (Nat → Int32))) (x6_44 : Int32) (x3_27 : Int32) (v_logs : Nat → Int32) (v_powers : Nat → Int32) (x7_49 : Int32) (x2 : Int32) : Nat → Int32 → (Nat → Int32) → Option (Int32 × (Nat → Int32) × (Nat → Int32))
  | 0, _, _ => none
  | F233_57 + 1, x8_55, v_rows_56 => if (5 : Int32) ≤ x8_55 then j303_51 v_rows_56 else og (ixb (((5 : Int32) * x6_44) + x8_55) 20) (jk (fun (t_60 : Int32) => og (ixb (((5 : Int32) * x6_44) + x8_55) 20) (nm (upd v_rows_56 (Int32.toNatClampNeg (((5 : Int32) * x6_44) + x8_55)) ((v_rows_56 (Int32.toNatClampNeg (((5 : Int32) * x6_44) + x8_55))) ^^^ t_60)) fun v_rows_63 => nm (x8_55 + 1 : Int32) fun x8_64 => fX10_fits_L233 j303_51 x6_44 x3_27 v_logs v_powers x7_49 x2 F233_57 x8_64 v_rows_63)) fun j295_61 => jk (og (ixb (((5 : Int32) * x3_27) + x8_55) 20) (ob1 (fX10_times v_logs v_powers (v_rows_56 (Int32.toNatClampNeg (((5 : Int32) * x3_27) + x8_55))) x7_49) fun r_67 => j295_61 r_67)) fun j274_65 => if x8_55 < x2 then j274_65 else if x8_55 = (4 : Int32) then j274_65 else j295_61 0)
def fX10_fits_L197 (j309_42 : (Nat → Int32) → Option (Int32 × (Nat → Int32) × (Nat → Int32))) (x3_27 : Int32) (v_logs : Nat → Int32) (v_powers : Nat → Int32) (x2 : Int32) : Nat → Int32 → (Nat → Int32) → Option (Int32 × (Nat → Int32) × (Nat → Int32))
  | 0, _, _ => none
  | F197_46 + 1, x6_44, v_rows_45 => if (4 : Int32) ≤ x6_44 then j309_42 v_rows_45 else og (ixb (((5 : Int32) * x6_44) + x3_27) 20) (nm ((v_rows_45 (Int32.toNatClampNeg (((5 : Int32) * x6_44) + x3_27))) : Int32) fun x7_49 => jk (fun (v_rows_50 : Nat → Int32) => nm (x6_44 + 1 : Int32) fun x6_52 => fX10_fits_L197 j309_42 x3_27 v_logs v_powers x2 F197_46 x6_52 v_rows_50) fun j303_51 => if x6_44 = x3_27 then j303_51 v_rows_45 else if x7_49 = 0 then j303_51 v_rows_45 else fX10_fits_L233 j303_51 x6_44 x3_27 v_logs v_powers x7_49 x2 FU 0 v_rows_45)
def fX10_fits_L138 (j194_40 : (Nat → Int32) → Option (Int32 × (Nat → Int32) × (Nat → Int32))) (x3_27 : Int32) (v_logs : Nat → Int32) (v_powers : Nat → Int32) (r_37 : Int32) (x2 : Int32) : Nat → Int32 → (Nat → Int32) → Option (Int32 × (Nat → Int32) × (Nat → Int32))
  | 0, _, _ => none
  | F138_73 + 1, x6_71, v_rows_72 => if (5 : Int32) ≤ x6_71 then j194_40 v_rows_72 else jk (fun (t_75 : Int32) => og (ixb (((5 : Int32) * x3_27) + x6_71) 20) (nm (upd v_rows_72 (Int32.toNatClampNeg (((5 : Int32) * x3_27) + x6_71)) t_75) fun v_rows_78 => nm (x6_71 + 1 : Int32) fun x6_79 => fX10_fits_L138 j194_40 x3_27 v_logs v_powers r_37 x2 F138_73 x6_79 v_rows_78)) fun j187_76 => jk (og (ixb (((5 : Int32) * x3_27) + x6_71) 20) (ob1 (fX10_times v_logs v_powers (v_rows_72 (Int32.toNatClampNeg (((5 : Int32) * x3_27) + x6_71))) r_37) fun r_82 => j187_76 r_82)) fun j166_80 => if x6_71 < x2 then j166_80 else if x6_71 = (4 : Int32) then j166_80 else j187_76 0
def fX10_fits_L78 (j104_32 : Int32 → Option (Int32 × (Nat → Int32) × (Nat → Int32))) (x3_27 : Int32) (v_rows_28 : Nat → Int32) : Nat → Int32 → Option (Int32 × (Nat → Int32) × (Nat → Int32))
  | 0, _ => none
  | F78_87 + 1, x4_86 => if (4 : Int32) ≤ x4_86 then j104_32 x4_86 else og (ixb (((5 : Int32) * x4_86) + x3_27) 20) (if (v_rows_28 (Int32.toNatClampNeg (((5 : Int32) * x4_86) + x3_27))) = 0 then nm (x4_86 + 1 : Int32) fun x4_91 => fX10_fits_L78 j104_32 x3_27 v_rows_28 F78_87 x4_91 else j104_32 x4_86)
def fX10_fits_L70 (x2 : Int32) (j315_4 : (Nat → Int32) → Option (Int32 × (Nat → Int32) × (Nat → Int32))) (v_values : Nat → Int32) (v_logs : Nat → Int32) (v_powers : Nat → Int32) : Nat → Int32 → (Nat → Int32) → Option (Int32 × (Nat → Int32) × (Nat → Int32))
  | 0, _, _ => none
  | F70_29 + 1, x3_27, v_rows_28 => if x2 ≤ x3_27 then j315_4 v_rows_28 else jk (fun (x4_31 : Int32) => if x4_31 = (4 : Int32) then some (0, v_rows_28, v_values) else ob1 (fX10_swapRows v_rows_28 x4_31 x3_27) fun v_rows_34 => og (ixb (((5 : Int32) * x3_27) + x3_27) 20) (ob1 (fX10_inverse v_logs v_powers (v_rows_34 (Int32.toNatClampNeg (((5 : Int32) * x3_27) + x3_27)))) fun r_37 => jk (fun (v_rows_39 : Nat → Int32) => jk (fun (v_rows_41 : Nat → Int32) => nm (x3_27 + 1 : Int32) fun x3_43 => fX10_fits_L70 x2 j315_4 v_values v_logs v_powers F70_29 x3_43 v_rows_41) fun j309_42 => fX10_fits_L197 j309_42 x3_27 v_logs v_powers x2 FU 0 v_rows_39) fun j194_40 => fX10_fits_L138 j194_40 x3_27 v_logs v_powers r_37 x2 FU 0 v_rows_34)) fun j104_32 => fX10_fits_L78 j104_32 x3_27 v_rows_28 FU x3_27
def fX10_fits_L10 (x2 : Int32) (j46_97 : (Nat → Int32) → Option (Int32 × (Nat → Int32) × (Nat → Int32))) (v_powers : Nat → Int32) (x3_92 : Int32) (x1 : Int32) (v_places : Nat → Int32) : Nat → Int32 → (Nat → Int32) → Option (Int32 × (Nat → Int32) × (Nat → Int32))
  | 0, _, _ => none
  | F10_104 + 1, x4_102, v_rows_103 => if x2 ≤ x4_102 then j46_97 v_rows_103 else og (ixb x4_102 4) (ob1 (fX10_power v_powers x3_92 x1 (v_places (Int32.toNatClampNeg x4_102))) fun r_107 => og (ixb (((5 : Int32) * x3_92) + x4_102) 20) (nm (upd v_rows_103 (Int32.toNatClampNeg (((5 : Int32) * x3_92) + x4_102)) r_107) fun v_rows_110 => nm (x4_102 + 1 : Int32) fun x4_111 => fX10_fits_L10 x2 j46_97 v_powers x3_92 x1 v_places F10_104 x4_111 v_rows_110))
def fX10_fits_L2 (j68_2 : (Nat → Int32) → Option (Int32 × (Nat → Int32) × (Nat → Int32))) (v_syndromes : Nat → Int32) (x2 : Int32) (v_powers : Nat → Int32) (x1 : Int32) (v_places : Nat → Int32) : Nat → Int32 → (Nat → Int32) → Option (Int32 × (Nat → Int32) × (Nat → Int32))
  | 0, _, _ => none
  | F2_94 + 1, x3_92, v_rows_93 => if (4 : Int32) ≤ x3_92 then j68_2 v_rows_93 else jk (fun (v_rows_96 : Nat → Int32) => og (ixb x3_92 4) (og (ixb (((5 : Int32) * x3_92) + (4 : Int32)) 20) (nm (upd v_rows_96 (Int32.toNatClampNeg (((5 : Int32) * x3_92) + (4 : Int32))) (v_syndromes (Int32.toNatClampNeg x3_92))) fun v_rows_100 => nm (x3_92 + 1 : Int32) fun x3_101 => fX10_fits_L2 j68_2 v_syndromes x2 v_powers x1 v_places F2_94 x3_101 v_rows_100))) fun j46_97 => fX10_fits_L10 x2 j46_97 v_powers x3_92 x1 v_places FU 0 v_rows_93
def fX10_fits (v_logs : Nat → Int32) (v_places : Nat → Int32) (v_powers : Nat → Int32) (v_rows : Nat → Int32) (v_syndromes : Nat → Int32) (v_values : Nat → Int32) (x1 : Int32) (x2 : Int32) : Option (Int32 × (Nat → Int32) × (Nat → Int32)) := jk (fun (v_rows_1 : Nat → Int32) => jk (fun (v_rows_3 : Nat → Int32) => jk (fun (x3_5 : Int32) => fX10_fits_L359 x2 x3_5 v_rows_3 FU 0 v_values) fun j356_6 => fX10_fits_L320 j356_6 v_rows_3 FU x2 1) fun j315_4 => fX10_fits_L70 x2 j315_4 v_values v_logs v_powers FU 0 v_rows_1) fun j68_2 => fX10_fits_L2 j68_2 v_syndromes x2 v_powers x1 v_places FU 0 v_rows
set_option maxHeartbeats 4000000 in
set_option maxRecDepth 100000 in
theorem ct_X10_fits (l : Launch) (D : va_G) (cB cI cZ : ClassId) (tw : Nat) (av : Nat → Nat) (a_this : Nat) (v_thrown : Int32) (v_size : Int32) (v_begins : Int32) (v_entries : Int32) (v_length : Int32) (v_pressed : Int32) (v_streamFrames : Int32) (v_zeros : Int32) (v_level : Int32) (v_sum : Int32) (v_tail : Int32) (v_isPlayed : Int32) (v_found : Int32) (v_strange : Int32) (v_innerFails : Int32) (v_outerFails : Int32) (v_mostMarks : Int32) (v_unsure : Int32) (v_may : Int32) (v_mocks : Int32) (v_sumThen : Int32) (v_logs : Nat → Int32) (v_places : Nat → Int32) (v_powers : Nat → Int32) (v_rows : Nat → Int32) (v_syndromes : Nat → Int32) (v_values : Nat → Int32) (x1 : Int32) (x2 : Int32) (res : Int32 × (Nat → Int32) × (Nat → Int32)) (h : fX10_fits v_logs v_places v_powers v_rows v_syndromes v_values x1 x2 = some res) : Ctr l yX10_fits cX10_fits 9 (some .boolean) (rmK 1 24) D (tyL cB cI cZ) tw [.ref a_this, .int x1, .int x2] (wX10_fits cB cI cZ av a_this v_thrown v_size v_begins v_entries v_length v_pressed v_streamFrames v_zeros v_level v_sum v_tail v_isPlayed v_found v_strange v_innerFails v_outerFails v_mostMarks v_unsure v_may v_mocks v_sumThen v_logs v_places v_powers v_rows v_syndromes v_values) (fun res : Int32 × (Nat → Int32) × (Nat → Int32) => some (.int res.1)) (fun res : Int32 × (Nat → Int32) × (Nat → Int32) => (wX10_fits cB cI cZ av a_this v_thrown v_size v_begins v_entries v_length v_pressed v_streamFrames v_zeros v_level v_sum v_tail v_isPlayed v_found v_strange v_innerFails v_outerFails v_mostMarks v_unsure v_may v_mocks v_sumThen v_logs v_places v_powers (res.2.1) v_syndromes (res.2.2))) res := by
  refine ctr_of RX10 (by decide) rfl (Nat.le_of_ble_eq_true rfl) ?_
  intro p e s m below meth c A C hw ls hl
  have hx := C.1
  have hb := C.2.1
  have hl : lv_has ls 9 [(0, .ref a_this), (1, .int x1), (2, .int x2)] := hl
  unfold fX10_fits at h
  refine lv_iconst (pc := 0) (v := 0) hx hb dX10_fits_0 (by decide) ?_
  refine lv_istore_n (pc := 1) (lv' := [(3, .int 0), (0, .ref a_this), (1, .int x1), (2, .int x2)]) hx hb dX10_fits_1 rfl hl (by decide) rfl (fun ls hl => ?_)
  obtain ⟨j68_2, ej68_2, h⟩ := jk_at h
  have J68_2 : ∀ (v_rows_1 : Nat → Int32) (ls : Array Slot) (H : Heap) (locs : List Loc), lv_has ls 9 [(0, .ref a_this), (2, .int x2)] → Wd D A s (wX10_fits cB cI cZ av a_this v_thrown v_size v_begins v_entries v_length v_pressed v_streamFrames v_zeros v_level v_sum v_tail v_isPlayed v_found v_strange v_innerFails v_outerFails v_mostMarks v_unsure v_may v_mocks v_sumThen v_logs v_places v_powers v_rows_1 v_syndromes v_values) H locs → j68_2 v_rows_1 = some res → W p l e (rmK 1 24) s m ([.ref a_this, .int x1, .int x2] : List Value).toArray below meth c H locs 0 0 (MQ below (QG D (tyL cB cI cZ) A (fun res : Int32 × (Nat → Int32) × (Nat → Int32) => some (.int res.1)) (fun res : Int32 × (Nat → Int32) × (Nat → Int32) => (wX10_fits cB cI cZ av a_this v_thrown v_size v_begins v_entries v_length v_pressed v_streamFrames v_zeros v_level v_sum v_tail v_isPlayed v_found v_strange v_innerFails v_outerFails v_mostMarks v_unsure v_may v_mocks v_sumThen v_logs v_places v_powers (res.2.1) v_syndromes (res.2.2))) res) ([.ref a_this, .int x1, .int x2] : List Value).toArray s 0 0 A) (F0 m 68 ls []) := by
    intro v_rows_1 ls H locs hl hw h
    have h := k1_at ej68_2 h
    refine lv_iconst (pc := 68) (v := 0) hx hb dX10_fits_68 (by decide) ?_
    refine lv_istore_n (pc := 69) (lv' := [(3, .int 0), (0, .ref a_this), (2, .int x2)]) hx hb dX10_fits_69 rfl hl (by decide) rfl (fun ls hl => ?_)
    obtain ⟨j315_4, ej315_4, h⟩ := jk_at h
    have J315_4 : ∀ (v_rows_3 : Nat → Int32) (ls : Array Slot) (H : Heap) (locs : List Loc), lv_has ls 9 [(0, .ref a_this), (2, .int x2)] → Wd D A s (wX10_fits cB cI cZ av a_this v_thrown v_size v_begins v_entries v_length v_pressed v_streamFrames v_zeros v_level v_sum v_tail v_isPlayed v_found v_strange v_innerFails v_outerFails v_mostMarks v_unsure v_may v_mocks v_sumThen v_logs v_places v_powers v_rows_3 v_syndromes v_values) H locs → j315_4 v_rows_3 = some res → W p l e (rmK 1 24) s m ([.ref a_this, .int x1, .int x2] : List Value).toArray below meth c H locs 0 0 (MQ below (QG D (tyL cB cI cZ) A (fun res : Int32 × (Nat → Int32) × (Nat → Int32) => some (.int res.1)) (fun res : Int32 × (Nat → Int32) × (Nat → Int32) => (wX10_fits cB cI cZ av a_this v_thrown v_size v_begins v_entries v_length v_pressed v_streamFrames v_zeros v_level v_sum v_tail v_isPlayed v_found v_strange v_innerFails v_outerFails v_mostMarks v_unsure v_may v_mocks v_sumThen v_logs v_places v_powers (res.2.1) v_syndromes (res.2.2))) res) ([.ref a_this, .int x1, .int x2] : List Value).toArray s 0 0 A) (F0 m 315 ls []) := by
      intro v_rows_3 ls H locs hl hw h
      have h := k1_at ej315_4 h
      refine lv_iconst (pc := 315) (v := 1) hx hb dX10_fits_315 (by decide) ?_
      refine lv_istore_n (pc := 316) (lv' := [(3, .int 1), (0, .ref a_this), (2, .int x2)]) hx hb dX10_fits_316 rfl hl (by decide) rfl (fun ls hl => ?_)
      refine lv_iload_n (pc := 317) hx hb dX10_fits_317 rfl (lv_at hl 2 rfl) ?_
      refine lv_istore (pc := 318) (lv' := [(4, .int x2), (3, .int 1), (0, .ref a_this), (2, .int x2)]) hx hb dX10_fits_318 hl (by decide) rfl (fun ls hl => ?_)
      obtain ⟨j356_6, ej356_6, h⟩ := jk_at h
      have J356_6 : ∀ (x3_5 : Int32) (ls : Array Slot) (H : Heap) (locs : List Loc), lv_has ls 9 [(3, .int x3_5), (0, .ref a_this), (2, .int x2)] → Wd D A s (wX10_fits cB cI cZ av a_this v_thrown v_size v_begins v_entries v_length v_pressed v_streamFrames v_zeros v_level v_sum v_tail v_isPlayed v_found v_strange v_innerFails v_outerFails v_mostMarks v_unsure v_may v_mocks v_sumThen v_logs v_places v_powers v_rows_3 v_syndromes v_values) H locs → j356_6 x3_5 = some res → W p l e (rmK 1 24) s m ([.ref a_this, .int x1, .int x2] : List Value).toArray below meth c H locs 0 0 (MQ below (QG D (tyL cB cI cZ) A (fun res : Int32 × (Nat → Int32) × (Nat → Int32) => some (.int res.1)) (fun res : Int32 × (Nat → Int32) × (Nat → Int32) => (wX10_fits cB cI cZ av a_this v_thrown v_size v_begins v_entries v_length v_pressed v_streamFrames v_zeros v_level v_sum v_tail v_isPlayed v_found v_strange v_innerFails v_outerFails v_mostMarks v_unsure v_may v_mocks v_sumThen v_logs v_places v_powers (res.2.1) v_syndromes (res.2.2))) res) ([.ref a_this, .int x1, .int x2] : List Value).toArray s 0 0 A) (F0 m 356 ls []) := by
        intro x3_5 ls H locs hl hw h
        have h := k1_at ej356_6 h
        refine lv_iconst (pc := 356) (v := 0) hx hb dX10_fits_356 (by decide) ?_
        refine lv_istore (pc := 357) (lv' := [(4, .int 0), (3, .int x3_5), (0, .ref a_this), (2, .int x2)]) hx hb dX10_fits_357 hl (by decide) rfl (fun ls hl => ?_)
        have Lih359_9 : ∀ (F : Nat) (x4_7 : Int32) (v_values_8 : Nat → Int32) (ls : Array Slot) (H : Heap) (locs : List Loc), lv_has ls 9 [(4, .int x4_7), (3, .int x3_5), (0, .ref a_this), (2, .int x2)] → Wd D A s (wX10_fits cB cI cZ av a_this v_thrown v_size v_begins v_entries v_length v_pressed v_streamFrames v_zeros v_level v_sum v_tail v_isPlayed v_found v_strange v_innerFails v_outerFails v_mostMarks v_unsure v_may v_mocks v_sumThen v_logs v_places v_powers v_rows_3 v_syndromes v_values_8) H locs → fX10_fits_L359 x2 x3_5 v_rows_3 F x4_7 v_values_8 = some res → W p l e (rmK 1 24) s m ([.ref a_this, .int x1, .int x2] : List Value).toArray below meth c H locs 0 0 (MQ below (QG D (tyL cB cI cZ) A (fun res : Int32 × (Nat → Int32) × (Nat → Int32) => some (.int res.1)) (fun res : Int32 × (Nat → Int32) × (Nat → Int32) => (wX10_fits cB cI cZ av a_this v_thrown v_size v_begins v_entries v_length v_pressed v_streamFrames v_zeros v_level v_sum v_tail v_isPlayed v_found v_strange v_innerFails v_outerFails v_mostMarks v_unsure v_may v_mocks v_sumThen v_logs v_places v_powers (res.2.1) v_syndromes (res.2.2))) res) ([.ref a_this, .int x1, .int x2] : List Value).toArray s 0 0 A) (F0 m 359 ls []) := by
          intro F
          induction F with
          | zero => intro x4_7 v_values_8 ls H locs hl hw h; rw [fX10_fits_L359.eq_1] at h; cases h
          | succ F359_9 ih359_9 =>
            intro x4_7 v_values_8 ls H locs hl hw h
            rw [fX10_fits_L359.eq_2] at h
            refine lv_iload (pc := 359) hx hb dX10_fits_359 (lv_at hl 0 rfl) ?_
            refine lv_iload_n (pc := 361) hx hb dX10_fits_361 rfl (lv_at hl 3 rfl) ?_
            refine lv_icmp_ge (pc := 362) (tgt := 389) hx hb dX10_fits_362 (by decide) (fun hc_10 => ?_) (fun hc_10 => ?_)
            · have h := ift hc_10 h
              refine lv_iload_n (pc := 389) hx hb dX10_fits_389 rfl (lv_at hl 1 rfl) ?_
              obtain ⟨hz_11, h⟩ := og_at h
              exact x_zret (pc := 390) (v := (x3_5, v_rows_3, v_values_8)) C (Option.some.inj h) hz_11 rfl hw dX10_fits_390
            · have h := iff' hc_10 h
              refine lv_aload_n (pc := 365) hx hb dX10_fits_365 rfl (lv_at hl 2 rfl) ?_
              refine gf_X10_58 (pc := 366) C hw 0 rfl rfl dX10_fits_366 ?_
              refine lv_iload (pc := 369) hx hb dX10_fits_369 (lv_at hl 0 rfl) ?_
              refine lv_aload_n (pc := 371) hx hb dX10_fits_371 rfl (lv_at hl 2 rfl) ?_
              refine gf_X10_61 (pc := 372) C hw 0 rfl rfl dX10_fits_372 ?_
              refine lv_iconst (pc := 375) (v := 5) hx hb dX10_fits_375 (by decide) ?_
              refine lv_iload (pc := 376) hx hb dX10_fits_376 (lv_at hl 0 rfl) ?_
              refine lv_imul (pc := 378) hx hb dX10_fits_378 ?_
              refine lv_iconst (pc := 379) (v := 4) hx hb dX10_fits_379 (by decide) ?_
              refine lv_iadd (pc := 380) hx hb dX10_fits_380 ?_
              obtain ⟨hi_12, h⟩ := og_at h
              refine x_iald (pc := 381) C hw 4 rfl hi_12 dX10_fits_381 ?_
              obtain ⟨hi_13, h⟩ := og_at h
              obtain ⟨v_values_14, ev_values_14⟩ : ∃ y : Nat → Int32, y = upd v_values_8 (Int32.toNatClampNeg x4_7) (v_rows_3 (Int32.toNatClampNeg (((5 : Int32) * x4_7) + (4 : Int32)))) := ⟨_, rfl⟩
              have h := nm_at ev_values_14 h
              refine x_iast (pc := 382) (wX10_fits cB cI cZ av a_this v_thrown v_size v_begins v_entries v_length v_pressed v_streamFrames v_zeros v_level v_sum v_tail v_isPlayed v_found v_strange v_innerFails v_outerFails v_mostMarks v_unsure v_may v_mocks v_sumThen v_logs v_places v_powers v_rows_3 v_syndromes v_values_14) C hw 6 rfl hi_13 (by rw [ev_values_14]; rfl) dX10_fits_382 (fun H locs hw => ?_)
              obtain ⟨x4_15, ex4_15⟩ : ∃ y : Int32, y = x4_7 + 1 := ⟨_, rfl⟩
              have h := nm_at ex4_15 h
              refine lv_iinc (pc := 383) (v := x4_15) (lv' := [(4, .int x4_15), (3, .int x3_5), (0, .ref a_this), (2, .int x2)]) hx hb dX10_fits_383 hl (k := 0) rfl (by rw [ex4_15]; rfl) (by decide) rfl (fun ls hl => ?_)
              refine lv_goto (pc := 386) (tgt := 359) hx hb dX10_fits_386 (by decide) ?_
              exact ih359_9 x4_15 v_values_14 ls _ _ (lv_sub hl [0, 1, 2, 3] rfl) hw h
        exact Lih359_9 FU 0 v_values ls _ _ (lv_sub hl [0, 1, 2, 3] rfl) hw h
      have Lih320_18 : ∀ (F : Nat) (x4_16 : Int32) (x3_17 : Int32) (ls : Array Slot) (H : Heap) (locs : List Loc), lv_has ls 9 [(4, .int x4_16), (3, .int x3_17), (0, .ref a_this), (2, .int x2)] → Wd D A s (wX10_fits cB cI cZ av a_this v_thrown v_size v_begins v_entries v_length v_pressed v_streamFrames v_zeros v_level v_sum v_tail v_isPlayed v_found v_strange v_innerFails v_outerFails v_mostMarks v_unsure v_may v_mocks v_sumThen v_logs v_places v_powers v_rows_3 v_syndromes v_values) H locs → fX10_fits_L320 j356_6 v_rows_3 F x4_16 x3_17 = some res → W p l e (rmK 1 24) s m ([.ref a_this, .int x1, .int x2] : List Value).toArray below meth c H locs 0 0 (MQ below (QG D (tyL cB cI cZ) A (fun res : Int32 × (Nat → Int32) × (Nat → Int32) => some (.int res.1)) (fun res : Int32 × (Nat → Int32) × (Nat → Int32) => (wX10_fits cB cI cZ av a_this v_thrown v_size v_begins v_entries v_length v_pressed v_streamFrames v_zeros v_level v_sum v_tail v_isPlayed v_found v_strange v_innerFails v_outerFails v_mostMarks v_unsure v_may v_mocks v_sumThen v_logs v_places v_powers (res.2.1) v_syndromes (res.2.2))) res) ([.ref a_this, .int x1, .int x2] : List Value).toArray s 0 0 A) (F0 m 320 ls []) := by
        intro F
        induction F with
        | zero => intro x4_16 x3_17 ls H locs hl hw h; rw [fX10_fits_L320.eq_1] at h; cases h
        | succ F320_18 ih320_18 =>
          intro x4_16 x3_17 ls H locs hl hw h
          rw [fX10_fits_L320.eq_2] at h
          refine lv_iload (pc := 320) hx hb dX10_fits_320 (lv_at hl 0 rfl) ?_
          refine lv_iconst (pc := 322) (v := 4) hx hb dX10_fits_322 (by decide) ?_
          refine lv_icmp_ge (pc := 323) (tgt := 356) hx hb dX10_fits_323 (by decide) (fun hc_19 => ?_) (fun hc_19 => ?_)
          · have h := ift hc_19 h
            exact J356_6 x3_17 ls _ _ (lv_sub hl [1, 2, 3] rfl) hw h
          · have h := iff' hc_19 h
            refine lv_iload_n (pc := 326) hx hb dX10_fits_326 rfl (lv_at hl 1 rfl) ?_
            obtain ⟨j349_21, ej349_21, h⟩ := jk_at h
            have J349_21 : ∀ (t_20 : Int32) (ls : Array Slot) (H : Heap) (locs : List Loc), lv_has ls 9 [(4, .int x4_16), (0, .ref a_this), (2, .int x2)] → Wd D A s (wX10_fits cB cI cZ av a_this v_thrown v_size v_begins v_entries v_length v_pressed v_streamFrames v_zeros v_level v_sum v_tail v_isPlayed v_found v_strange v_innerFails v_outerFails v_mostMarks v_unsure v_may v_mocks v_sumThen v_logs v_places v_powers v_rows_3 v_syndromes v_values) H locs → j349_21 t_20 = some res → W p l e (rmK 1 24) s m ([.ref a_this, .int x1, .int x2] : List Value).toArray below meth c H locs 0 0 (MQ below (QG D (tyL cB cI cZ) A (fun res : Int32 × (Nat → Int32) × (Nat → Int32) => some (.int res.1)) (fun res : Int32 × (Nat → Int32) × (Nat → Int32) => (wX10_fits cB cI cZ av a_this v_thrown v_size v_begins v_entries v_length v_pressed v_streamFrames v_zeros v_level v_sum v_tail v_isPlayed v_found v_strange v_innerFails v_outerFails v_mostMarks v_unsure v_may v_mocks v_sumThen v_logs v_places v_powers (res.2.1) v_syndromes (res.2.2))) res) ([.ref a_this, .int x1, .int x2] : List Value).toArray s 0 0 A) (F0 m 349 ls [.int t_20]) := by
              intro t_20 ls H locs hl hw h
              have h := k1_at ej349_21 h
              refine lv_istore_n (pc := 349) (lv' := [(3, .int t_20), (4, .int x4_16), (0, .ref a_this), (2, .int x2)]) hx hb dX10_fits_349 rfl hl (by decide) rfl (fun ls hl => ?_)
              obtain ⟨x4_22, ex4_22⟩ : ∃ y : Int32, y = x4_16 + 1 := ⟨_, rfl⟩
              have h := nm_at ex4_22 h
              refine lv_iinc (pc := 350) (v := x4_22) (lv' := [(4, .int x4_22), (3, .int t_20), (0, .ref a_this), (2, .int x2)]) hx hb dX10_fits_350 hl (k := 1) rfl (by rw [ex4_22]; rfl) (by decide) rfl (fun ls hl => ?_)
              refine lv_goto (pc := 353) (tgt := 320) hx hb dX10_fits_353 (by decide) ?_
              exact ih320_18 x4_22 t_20 ls _ _ (lv_sub hl [0, 1, 2, 3] rfl) hw h
            obtain ⟨j348_23, ej348_23, h⟩ := jk_at h
            have J348_23 : ∀  (ls : Array Slot) (H : Heap) (locs : List Loc), lv_has ls 9 [(4, .int x4_16), (0, .ref a_this), (2, .int x2)] → Wd D A s (wX10_fits cB cI cZ av a_this v_thrown v_size v_begins v_entries v_length v_pressed v_streamFrames v_zeros v_level v_sum v_tail v_isPlayed v_found v_strange v_innerFails v_outerFails v_mostMarks v_unsure v_may v_mocks v_sumThen v_logs v_places v_powers v_rows_3 v_syndromes v_values) H locs → j348_23 = some res → W p l e (rmK 1 24) s m ([.ref a_this, .int x1, .int x2] : List Value).toArray below meth c H locs 0 0 (MQ below (QG D (tyL cB cI cZ) A (fun res : Int32 × (Nat → Int32) × (Nat → Int32) => some (.int res.1)) (fun res : Int32 × (Nat → Int32) × (Nat → Int32) => (wX10_fits cB cI cZ av a_this v_thrown v_size v_begins v_entries v_length v_pressed v_streamFrames v_zeros v_level v_sum v_tail v_isPlayed v_found v_strange v_innerFails v_outerFails v_mostMarks v_unsure v_may v_mocks v_sumThen v_logs v_places v_powers (res.2.1) v_syndromes (res.2.2))) res) ([.ref a_this, .int x1, .int x2] : List Value).toArray s 0 0 A) (F0 m 348 ls []) := by
              intro  ls H locs hl hw h
              have h := k0_at ej348_23 h
              refine lv_iconst (pc := 348) (v := 0) hx hb dX10_fits_348 (by decide) ?_
              exact J349_21 0 ls _ _ (lv_sub hl [0, 1, 2] rfl) hw h
            refine lv_if_eq (pc := 327) (tgt := 348) hx hb dX10_fits_327 (by decide) (fun hc_24 => ?_) (fun hc_24 => ?_)
            · have h := ift hc_24 h
              exact J348_23  ls _ _ (lv_sub hl [0, 2, 3] rfl) hw h
            · have h := iff' hc_24 h
              refine lv_aload_n (pc := 330) hx hb dX10_fits_330 rfl (lv_at hl 2 rfl) ?_
              refine gf_X10_61 (pc := 331) C hw 0 rfl rfl dX10_fits_331 ?_
              refine lv_iconst (pc := 334) (v := 5) hx hb dX10_fits_334 (by decide) ?_
              refine lv_iload (pc := 335) hx hb dX10_fits_335 (lv_at hl 0 rfl) ?_
              refine lv_imul (pc := 337) hx hb dX10_fits_337 ?_
              refine lv_iconst (pc := 338) (v := 4) hx hb dX10_fits_338 (by decide) ?_
              refine lv_iadd (pc := 339) hx hb dX10_fits_339 ?_
              obtain ⟨hi_25, h⟩ := og_at h
              refine x_iald (pc := 340) C hw 4 rfl hi_25 dX10_fits_340 ?_
              refine lv_if_ne (pc := 341) (tgt := 348) hx hb dX10_fits_341 (by decide) (fun hc_26 => ?_) (fun hc_26 => ?_)
              · have h := iff' hc_26 h
                exact J348_23  ls _ _ (lv_sub hl [0, 2, 3] rfl) hw h
              · have h := ift hc_26 h
                refine lv_iconst (pc := 344) (v := 1) hx hb dX10_fits_344 (by decide) ?_
                refine lv_goto (pc := 345) (tgt := 349) hx hb dX10_fits_345 (by decide) ?_
                exact J349_21 1 ls _ _ (lv_sub hl [0, 2, 3] rfl) hw h
      exact Lih320_18 FU x2 1 ls _ _ (lv_sub hl [0, 1, 2, 3] rfl) hw h
    have Lih70_29 : ∀ (F : Nat) (x3_27 : Int32) (v_rows_28 : Nat → Int32) (ls : Array Slot) (H : Heap) (locs : List Loc), lv_has ls 9 [(3, .int x3_27), (0, .ref a_this), (2, .int x2)] → Wd D A s (wX10_fits cB cI cZ av a_this v_thrown v_size v_begins v_entries v_length v_pressed v_streamFrames v_zeros v_level v_sum v_tail v_isPlayed v_found v_strange v_innerFails v_outerFails v_mostMarks v_unsure v_may v_mocks v_sumThen v_logs v_places v_powers v_rows_28 v_syndromes v_values) H locs → fX10_fits_L70 x2 j315_4 v_values v_logs v_powers F x3_27 v_rows_28 = some res → W p l e (rmK 1 24) s m ([.ref a_this, .int x1, .int x2] : List Value).toArray below meth c H locs 0 0 (MQ below (QG D (tyL cB cI cZ) A (fun res : Int32 × (Nat → Int32) × (Nat → Int32) => some (.int res.1)) (fun res : Int32 × (Nat → Int32) × (Nat → Int32) => (wX10_fits cB cI cZ av a_this v_thrown v_size v_begins v_entries v_length v_pressed v_streamFrames v_zeros v_level v_sum v_tail v_isPlayed v_found v_strange v_innerFails v_outerFails v_mostMarks v_unsure v_may v_mocks v_sumThen v_logs v_places v_powers (res.2.1) v_syndromes (res.2.2))) res) ([.ref a_this, .int x1, .int x2] : List Value).toArray s 0 0 A) (F0 m 70 ls []) := by
      intro F
      induction F with
      | zero => intro x3_27 v_rows_28 ls H locs hl hw h; rw [fX10_fits_L70.eq_1] at h; cases h
      | succ F70_29 ih70_29 =>
        intro x3_27 v_rows_28 ls H locs hl hw h
        rw [fX10_fits_L70.eq_2] at h
        refine lv_iload_n (pc := 70) hx hb dX10_fits_70 rfl (lv_at hl 0 rfl) ?_
        refine lv_iload_n (pc := 71) hx hb dX10_fits_71 rfl (lv_at hl 2 rfl) ?_
        refine lv_icmp_ge (pc := 72) (tgt := 315) hx hb dX10_fits_72 (by decide) (fun hc_30 => ?_) (fun hc_30 => ?_)
        · have h := ift hc_30 h
          exact J315_4 v_rows_28 ls _ _ (lv_sub hl [1, 2] rfl) hw h
        · have h := iff' hc_30 h
          refine lv_iload_n (pc := 75) hx hb dX10_fits_75 rfl (lv_at hl 0 rfl) ?_
          refine lv_istore (pc := 76) (lv' := [(4, .int x3_27), (3, .int x3_27), (0, .ref a_this), (2, .int x2)]) hx hb dX10_fits_76 hl (by decide) rfl (fun ls hl => ?_)
          obtain ⟨j104_32, ej104_32, h⟩ := jk_at h
          have J104_32 : ∀ (x4_31 : Int32) (ls : Array Slot) (H : Heap) (locs : List Loc), lv_has ls 9 [(4, .int x4_31), (3, .int x3_27), (0, .ref a_this), (2, .int x2)] → Wd D A s (wX10_fits cB cI cZ av a_this v_thrown v_size v_begins v_entries v_length v_pressed v_streamFrames v_zeros v_level v_sum v_tail v_isPlayed v_found v_strange v_innerFails v_outerFails v_mostMarks v_unsure v_may v_mocks v_sumThen v_logs v_places v_powers v_rows_28 v_syndromes v_values) H locs → j104_32 x4_31 = some res → W p l e (rmK 1 24) s m ([.ref a_this, .int x1, .int x2] : List Value).toArray below meth c H locs 0 0 (MQ below (QG D (tyL cB cI cZ) A (fun res : Int32 × (Nat → Int32) × (Nat → Int32) => some (.int res.1)) (fun res : Int32 × (Nat → Int32) × (Nat → Int32) => (wX10_fits cB cI cZ av a_this v_thrown v_size v_begins v_entries v_length v_pressed v_streamFrames v_zeros v_level v_sum v_tail v_isPlayed v_found v_strange v_innerFails v_outerFails v_mostMarks v_unsure v_may v_mocks v_sumThen v_logs v_places v_powers (res.2.1) v_syndromes (res.2.2))) res) ([.ref a_this, .int x1, .int x2] : List Value).toArray s 0 0 A) (F0 m 104 ls []) := by
            intro x4_31 ls H locs hl hw h
            have h := k1_at ej104_32 h
            refine lv_iload (pc := 104) hx hb dX10_fits_104 (lv_at hl 0 rfl) ?_
            refine lv_iconst (pc := 106) (v := 4) hx hb dX10_fits_106 (by decide) ?_
            refine lv_icmp_ne (pc := 107) (tgt := 112) hx hb dX10_fits_107 (by decide) (fun hc_33 => ?_) (fun hc_33 => ?_)
            · have h := iff' hc_33 h
              refine lv_aload_n (pc := 112) hx hb dX10_fits_112 rfl (lv_at hl 2 rfl) ?_
              refine lv_iload (pc := 113) hx hb dX10_fits_113 (lv_at hl 0 rfl) ?_
              refine lv_iload_n (pc := 115) hx hb dX10_fits_115 rfl (lv_at hl 1 rfl) ?_
              obtain ⟨v_rows_34, hq_35, h⟩ := ob1_at h
              refine x_callV (pc := 116) (rest := []) (stk := []) (wX10_fits cB cI cZ av a_this v_thrown v_size v_begins v_entries v_length v_pressed v_streamFrames v_zeros v_level v_sum v_tail v_isPlayed v_found v_strange v_innerFails v_outerFails v_mostMarks v_unsure v_may v_mocks v_sumThen v_logs v_places v_powers v_rows_34 v_syndromes v_values) C hw (ct_X10_swapRows l D cB cI cZ tw av a_this v_thrown v_size v_begins v_entries v_length v_pressed v_streamFrames v_zeros v_level v_sum v_tail v_isPlayed v_found v_strange v_innerFails v_outerFails v_mostMarks v_unsure v_may v_mocks v_sumThen v_rows_28 x4_31 x3_27 v_rows_34 hq_35) cal_X10_swapRows tw_1252 (q0 := 0) rfl rfl [0, 4] [1, 2, 3, 5, 6] 7 [((av 4), .inl (cI, 256, .inl v_logs)), ((av 25), .inl (cI, 4, .inl v_places)), ((av 3), .inl (cI, 512, .inl v_powers)), ((av 24), .inl (cI, 4, .inl v_syndromes)), ((av 26), .inl (cI, 4, .inl v_values))] rfl rfl rfl rfl rfl rfl rfl rfl rfl rfl rfl (Nat.le_of_ble_eq_true rfl) hl.1 ⟨Nat.le_of_ble_eq_true rfl, Nat.le_of_ble_eq_true rfl⟩ ⟨Nat.zero_le _, Nat.zero_le _⟩ dX10_fits_116 (fun H locs hw => ?_)
              refine lv_aload_n (pc := 119) hx hb dX10_fits_119 rfl (lv_at hl 2 rfl) ?_
              refine lv_aload_n (pc := 120) hx hb dX10_fits_120 rfl (lv_at hl 2 rfl) ?_
              refine gf_X10_61 (pc := 121) C hw 0 rfl rfl dX10_fits_121 ?_
              refine lv_iconst (pc := 124) (v := 5) hx hb dX10_fits_124 (by decide) ?_
              refine lv_iload_n (pc := 125) hx hb dX10_fits_125 rfl (lv_at hl 1 rfl) ?_
              refine lv_imul (pc := 126) hx hb dX10_fits_126 ?_
              refine lv_iload_n (pc := 127) hx hb dX10_fits_127 rfl (lv_at hl 1 rfl) ?_
              refine lv_iadd (pc := 128) hx hb dX10_fits_128 ?_
              obtain ⟨hi_36, h⟩ := og_at h
              refine x_iald (pc := 129) C hw 4 rfl hi_36 dX10_fits_129 ?_
              obtain ⟨r_37, hq_38, h⟩ := ob1_at h
              refine x_callV (pc := 130) (rest := []) (stk := [.int r_37]) (wX10_fits cB cI cZ av a_this v_thrown v_size v_begins v_entries v_length v_pressed v_streamFrames v_zeros v_level v_sum v_tail v_isPlayed v_found v_strange v_innerFails v_outerFails v_mostMarks v_unsure v_may v_mocks v_sumThen v_logs v_places v_powers v_rows_34 v_syndromes v_values) C hw (ct_X10_inverse l D cB cI cZ tw av a_this v_thrown v_size v_begins v_entries v_length v_pressed v_streamFrames v_zeros v_level v_sum v_tail v_isPlayed v_found v_strange v_innerFails v_outerFails v_mostMarks v_unsure v_may v_mocks v_sumThen v_logs v_powers (v_rows_34 (Int32.toNatClampNeg (((5 : Int32) * x3_27) + x3_27))) r_37 hq_38) cal_X10_inverse tw_1256 (q0 := 0) rfl rfl [0, 1, 3] [2, 4, 5, 6] 7 [((av 25), .inl (cI, 4, .inl v_places)), ((av 27), .inl (cI, 20, .inl v_rows_34)), ((av 24), .inl (cI, 4, .inl v_syndromes)), ((av 26), .inl (cI, 4, .inl v_values))] rfl rfl rfl rfl rfl rfl rfl rfl rfl rfl rfl (Nat.le_of_ble_eq_true rfl) hl.1 ⟨Nat.le_of_ble_eq_true rfl, Nat.le_of_ble_eq_true rfl⟩ ⟨Nat.zero_le _, Nat.zero_le _⟩ dX10_fits_130 (fun H locs hw => ?_)
              refine lv_istore (pc := 133) (lv' := [(5, .int r_37), (4, .int x4_31), (3, .int x3_27), (0, .ref a_this), (2, .int x2)]) hx hb dX10_fits_133 hl (by decide) rfl (fun ls hl => ?_)
              refine lv_iconst (pc := 135) (v := 0) hx hb dX10_fits_135 (by decide) ?_
              refine lv_istore (pc := 136) (lv' := [(6, .int 0), (5, .int r_37), (4, .int x4_31), (3, .int x3_27), (0, .ref a_this), (2, .int x2)]) hx hb dX10_fits_136 hl (by decide) rfl (fun ls hl => ?_)
              obtain ⟨j194_40, ej194_40, h⟩ := jk_at h
              have J194_40 : ∀ (v_rows_39 : Nat → Int32) (ls : Array Slot) (H : Heap) (locs : List Loc), lv_has ls 9 [(3, .int x3_27), (0, .ref a_this), (2, .int x2)] → Wd D A s (wX10_fits cB cI cZ av a_this v_thrown v_size v_begins v_entries v_length v_pressed v_streamFrames v_zeros v_level v_sum v_tail v_isPlayed v_found v_strange v_innerFails v_outerFails v_mostMarks v_unsure v_may v_mocks v_sumThen v_logs v_places v_powers v_rows_39 v_syndromes v_values) H locs → j194_40 v_rows_39 = some res → W p l e (rmK 1 24) s m ([.ref a_this, .int x1, .int x2] : List Value).toArray below meth c H locs 0 0 (MQ below (QG D (tyL cB cI cZ) A (fun res : Int32 × (Nat → Int32) × (Nat → Int32) => some (.int res.1)) (fun res : Int32 × (Nat → Int32) × (Nat → Int32) => (wX10_fits cB cI cZ av a_this v_thrown v_size v_begins v_entries v_length v_pressed v_streamFrames v_zeros v_level v_sum v_tail v_isPlayed v_found v_strange v_innerFails v_outerFails v_mostMarks v_unsure v_may v_mocks v_sumThen v_logs v_places v_powers (res.2.1) v_syndromes (res.2.2))) res) ([.ref a_this, .int x1, .int x2] : List Value).toArray s 0 0 A) (F0 m 194 ls []) := by
                intro v_rows_39 ls H locs hl hw h
                have h := k1_at ej194_40 h
                refine lv_iconst (pc := 194) (v := 0) hx hb dX10_fits_194 (by decide) ?_
                refine lv_istore (pc := 195) (lv' := [(6, .int 0), (3, .int x3_27), (0, .ref a_this), (2, .int x2)]) hx hb dX10_fits_195 hl (by decide) rfl (fun ls hl => ?_)
                obtain ⟨j309_42, ej309_42, h⟩ := jk_at h
                have J309_42 : ∀ (v_rows_41 : Nat → Int32) (ls : Array Slot) (H : Heap) (locs : List Loc), lv_has ls 9 [(3, .int x3_27), (0, .ref a_this), (2, .int x2)] → Wd D A s (wX10_fits cB cI cZ av a_this v_thrown v_size v_begins v_entries v_length v_pressed v_streamFrames v_zeros v_level v_sum v_tail v_isPlayed v_found v_strange v_innerFails v_outerFails v_mostMarks v_unsure v_may v_mocks v_sumThen v_logs v_places v_powers v_rows_41 v_syndromes v_values) H locs → j309_42 v_rows_41 = some res → W p l e (rmK 1 24) s m ([.ref a_this, .int x1, .int x2] : List Value).toArray below meth c H locs 0 0 (MQ below (QG D (tyL cB cI cZ) A (fun res : Int32 × (Nat → Int32) × (Nat → Int32) => some (.int res.1)) (fun res : Int32 × (Nat → Int32) × (Nat → Int32) => (wX10_fits cB cI cZ av a_this v_thrown v_size v_begins v_entries v_length v_pressed v_streamFrames v_zeros v_level v_sum v_tail v_isPlayed v_found v_strange v_innerFails v_outerFails v_mostMarks v_unsure v_may v_mocks v_sumThen v_logs v_places v_powers (res.2.1) v_syndromes (res.2.2))) res) ([.ref a_this, .int x1, .int x2] : List Value).toArray s 0 0 A) (F0 m 309 ls []) := by
                  intro v_rows_41 ls H locs hl hw h
                  have h := k1_at ej309_42 h
                  obtain ⟨x3_43, ex3_43⟩ : ∃ y : Int32, y = x3_27 + 1 := ⟨_, rfl⟩
                  have h := nm_at ex3_43 h
                  refine lv_iinc (pc := 309) (v := x3_43) (lv' := [(3, .int x3_43), (0, .ref a_this), (2, .int x2)]) hx hb dX10_fits_309 hl (k := 0) rfl (by rw [ex3_43]; rfl) (by decide) rfl (fun ls hl => ?_)
                  refine lv_goto (pc := 312) (tgt := 70) hx hb dX10_fits_312 (by decide) ?_
                  exact ih70_29 x3_43 v_rows_41 ls _ _ (lv_sub hl [0, 1, 2] rfl) hw h
                have Lih197_46 : ∀ (F : Nat) (x6_44 : Int32) (v_rows_45 : Nat → Int32) (ls : Array Slot) (H : Heap) (locs : List Loc), lv_has ls 9 [(6, .int x6_44), (3, .int x3_27), (0, .ref a_this), (2, .int x2)] → Wd D A s (wX10_fits cB cI cZ av a_this v_thrown v_size v_begins v_entries v_length v_pressed v_streamFrames v_zeros v_level v_sum v_tail v_isPlayed v_found v_strange v_innerFails v_outerFails v_mostMarks v_unsure v_may v_mocks v_sumThen v_logs v_places v_powers v_rows_45 v_syndromes v_values) H locs → fX10_fits_L197 j309_42 x3_27 v_logs v_powers x2 F x6_44 v_rows_45 = some res → W p l e (rmK 1 24) s m ([.ref a_this, .int x1, .int x2] : List Value).toArray below meth c H locs 0 0 (MQ below (QG D (tyL cB cI cZ) A (fun res : Int32 × (Nat → Int32) × (Nat → Int32) => some (.int res.1)) (fun res : Int32 × (Nat → Int32) × (Nat → Int32) => (wX10_fits cB cI cZ av a_this v_thrown v_size v_begins v_entries v_length v_pressed v_streamFrames v_zeros v_level v_sum v_tail v_isPlayed v_found v_strange v_innerFails v_outerFails v_mostMarks v_unsure v_may v_mocks v_sumThen v_logs v_places v_powers (res.2.1) v_syndromes (res.2.2))) res) ([.ref a_this, .int x1, .int x2] : List Value).toArray s 0 0 A) (F0 m 197 ls []) := by
                  intro F
                  induction F with
                  | zero => intro x6_44 v_rows_45 ls H locs hl hw h; rw [fX10_fits_L197.eq_1] at h; cases h
                  | succ F197_46 ih197_46 =>
                    intro x6_44 v_rows_45 ls H locs hl hw h
                    rw [fX10_fits_L197.eq_2] at h
                    refine lv_iload (pc := 197) hx hb dX10_fits_197 (lv_at hl 0 rfl) ?_
                    refine lv_iconst (pc := 199) (v := 4) hx hb dX10_fits_199 (by decide) ?_
                    refine lv_icmp_ge (pc := 200) (tgt := 309) hx hb dX10_fits_200 (by decide) (fun hc_47 => ?_) (fun hc_47 => ?_)
                    · have h := ift hc_47 h
                      exact J309_42 v_rows_45 ls _ _ (lv_sub hl [1, 2, 3] rfl) hw h
                    · have h := iff' hc_47 h
                      refine lv_aload_n (pc := 203) hx hb dX10_fits_203 rfl (lv_at hl 2 rfl) ?_
                      refine gf_X10_61 (pc := 204) C hw 0 rfl rfl dX10_fits_204 ?_
                      refine lv_iconst (pc := 207) (v := 5) hx hb dX10_fits_207 (by decide) ?_
                      refine lv_iload (pc := 208) hx hb dX10_fits_208 (lv_at hl 0 rfl) ?_
                      refine lv_imul (pc := 210) hx hb dX10_fits_210 ?_
                      refine lv_iload_n (pc := 211) hx hb dX10_fits_211 rfl (lv_at hl 1 rfl) ?_
                      refine lv_iadd (pc := 212) hx hb dX10_fits_212 ?_
                      obtain ⟨hi_48, h⟩ := og_at h
                      refine x_iald (pc := 213) C hw 4 rfl hi_48 dX10_fits_213 ?_
                      refine lv_topi (pc := 214) (fun x7_49 ex7_49 => ?_)
                      have h := nm_at ex7_49 h
                      refine lv_istore (pc := 214) (lv' := [(7, .int x7_49), (6, .int x6_44), (3, .int x3_27), (0, .ref a_this), (2, .int x2)]) hx hb dX10_fits_214 hl (by decide) rfl (fun ls hl => ?_)
                      refine lv_iload (pc := 216) hx hb dX10_fits_216 (lv_at hl 1 rfl) ?_
                      refine lv_iload_n (pc := 218) hx hb dX10_fits_218 rfl (lv_at hl 2 rfl) ?_
                      obtain ⟨j303_51, ej303_51, h⟩ := jk_at h
                      have J303_51 : ∀ (v_rows_50 : Nat → Int32) (ls : Array Slot) (H : Heap) (locs : List Loc), lv_has ls 9 [(6, .int x6_44), (3, .int x3_27), (0, .ref a_this), (2, .int x2)] → Wd D A s (wX10_fits cB cI cZ av a_this v_thrown v_size v_begins v_entries v_length v_pressed v_streamFrames v_zeros v_level v_sum v_tail v_isPlayed v_found v_strange v_innerFails v_outerFails v_mostMarks v_unsure v_may v_mocks v_sumThen v_logs v_places v_powers v_rows_50 v_syndromes v_values) H locs → j303_51 v_rows_50 = some res → W p l e (rmK 1 24) s m ([.ref a_this, .int x1, .int x2] : List Value).toArray below meth c H locs 0 0 (MQ below (QG D (tyL cB cI cZ) A (fun res : Int32 × (Nat → Int32) × (Nat → Int32) => some (.int res.1)) (fun res : Int32 × (Nat → Int32) × (Nat → Int32) => (wX10_fits cB cI cZ av a_this v_thrown v_size v_begins v_entries v_length v_pressed v_streamFrames v_zeros v_level v_sum v_tail v_isPlayed v_found v_strange v_innerFails v_outerFails v_mostMarks v_unsure v_may v_mocks v_sumThen v_logs v_places v_powers (res.2.1) v_syndromes (res.2.2))) res) ([.ref a_this, .int x1, .int x2] : List Value).toArray s 0 0 A) (F0 m 303 ls []) := by
                        intro v_rows_50 ls H locs hl hw h
                        have h := k1_at ej303_51 h
                        obtain ⟨x6_52, ex6_52⟩ : ∃ y : Int32, y = x6_44 + 1 := ⟨_, rfl⟩
                        have h := nm_at ex6_52 h
                        refine lv_iinc (pc := 303) (v := x6_52) (lv' := [(6, .int x6_52), (3, .int x3_27), (0, .ref a_this), (2, .int x2)]) hx hb dX10_fits_303 hl (k := 0) rfl (by rw [ex6_52]; rfl) (by decide) rfl (fun ls hl => ?_)
                        refine lv_goto (pc := 306) (tgt := 197) hx hb dX10_fits_306 (by decide) ?_
                        exact ih197_46 x6_52 v_rows_50 ls _ _ (lv_sub hl [0, 1, 2, 3] rfl) hw h
                      refine lv_icmp_eq (pc := 219) (tgt := 303) hx hb dX10_fits_219 (by decide) (fun hc_53 => ?_) (fun hc_53 => ?_)
                      · have h := ift hc_53 h
                        exact J303_51 v_rows_45 ls _ _ (lv_sub hl [1, 2, 3, 4] rfl) hw h
                      · have h := iff' hc_53 h
                        refine lv_iload (pc := 222) hx hb dX10_fits_222 (lv_at hl 0 rfl) ?_
                        refine lv_if_ne (pc := 224) (tgt := 230) hx hb dX10_fits_224 (by decide) (fun hc_54 => ?_) (fun hc_54 => ?_)
                        · have h := iff' hc_54 h
                          refine lv_iconst (pc := 230) (v := 0) hx hb dX10_fits_230 (by decide) ?_
                          refine lv_istore (pc := 231) (lv' := [(8, .int 0), (7, .int x7_49), (6, .int x6_44), (3, .int x3_27), (0, .ref a_this), (2, .int x2)]) hx hb dX10_fits_231 hl (by decide) rfl (fun ls hl => ?_)
                          have Lih233_57 : ∀ (F : Nat) (x8_55 : Int32) (v_rows_56 : Nat → Int32) (ls : Array Slot) (H : Heap) (locs : List Loc), lv_has ls 9 [(8, .int x8_55), (7, .int x7_49), (6, .int x6_44), (3, .int x3_27), (0, .ref a_this), (2, .int x2)] → Wd D A s (wX10_fits cB cI cZ av a_this v_thrown v_size v_begins v_entries v_length v_pressed v_streamFrames v_zeros v_level v_sum v_tail v_isPlayed v_found v_strange v_innerFails v_outerFails v_mostMarks v_unsure v_may v_mocks v_sumThen v_logs v_places v_powers v_rows_56 v_syndromes v_values) H locs → fX10_fits_L233 j303_51 x6_44 x3_27 v_logs v_powers x7_49 x2 F x8_55 v_rows_56 = some res → W p l e (rmK 1 24) s m ([.ref a_this, .int x1, .int x2] : List Value).toArray below meth c H locs 0 0 (MQ below (QG D (tyL cB cI cZ) A (fun res : Int32 × (Nat → Int32) × (Nat → Int32) => some (.int res.1)) (fun res : Int32 × (Nat → Int32) × (Nat → Int32) => (wX10_fits cB cI cZ av a_this v_thrown v_size v_begins v_entries v_length v_pressed v_streamFrames v_zeros v_level v_sum v_tail v_isPlayed v_found v_strange v_innerFails v_outerFails v_mostMarks v_unsure v_may v_mocks v_sumThen v_logs v_places v_powers (res.2.1) v_syndromes (res.2.2))) res) ([.ref a_this, .int x1, .int x2] : List Value).toArray s 0 0 A) (F0 m 233 ls []) := by
                            intro F
                            induction F with
                            | zero => intro x8_55 v_rows_56 ls H locs hl hw h; rw [fX10_fits_L233.eq_1] at h; cases h
                            | succ F233_57 ih233_57 =>
                              intro x8_55 v_rows_56 ls H locs hl hw h
                              rw [fX10_fits_L233.eq_2] at h
                              refine lv_iload (pc := 233) hx hb dX10_fits_233 (lv_at hl 0 rfl) ?_
                              refine lv_iconst (pc := 235) (v := 5) hx hb dX10_fits_235 (by decide) ?_
                              refine lv_icmp_ge (pc := 236) (tgt := 303) hx hb dX10_fits_236 (by decide) (fun hc_58 => ?_) (fun hc_58 => ?_)
                              · have h := ift hc_58 h
                                exact J303_51 v_rows_56 ls _ _ (lv_sub hl [2, 3, 4, 5] rfl) hw h
                              · have h := iff' hc_58 h
                                refine lv_aload_n (pc := 239) hx hb dX10_fits_239 rfl (lv_at hl 4 rfl) ?_
                                refine gf_X10_61 (pc := 240) C hw 0 rfl rfl dX10_fits_240 ?_
                                refine lv_iconst (pc := 243) (v := 5) hx hb dX10_fits_243 (by decide) ?_
                                refine lv_iload (pc := 244) hx hb dX10_fits_244 (lv_at hl 2 rfl) ?_
                                refine lv_imul (pc := 246) hx hb dX10_fits_246 ?_
                                refine lv_iload (pc := 247) hx hb dX10_fits_247 (lv_at hl 0 rfl) ?_
                                refine lv_iadd (pc := 249) hx hb dX10_fits_249 ?_
                                refine lv_aload_n (pc := 250) hx hb dX10_fits_250 rfl (lv_at hl 4 rfl) ?_
                                refine gf_X10_61 (pc := 251) C hw 0 rfl rfl dX10_fits_251 ?_
                                refine lv_iconst (pc := 254) (v := 5) hx hb dX10_fits_254 (by decide) ?_
                                refine lv_iload (pc := 255) hx hb dX10_fits_255 (lv_at hl 2 rfl) ?_
                                refine lv_imul (pc := 257) hx hb dX10_fits_257 ?_
                                refine lv_iload (pc := 258) hx hb dX10_fits_258 (lv_at hl 0 rfl) ?_
                                refine lv_iadd (pc := 260) hx hb dX10_fits_260 ?_
                                obtain ⟨hi_59, h⟩ := og_at h
                                refine x_iald (pc := 261) C hw 4 rfl hi_59 dX10_fits_261 ?_
                                refine lv_iload (pc := 262) hx hb dX10_fits_262 (lv_at hl 0 rfl) ?_
                                refine lv_iload_n (pc := 264) hx hb dX10_fits_264 rfl (lv_at hl 5 rfl) ?_
                                obtain ⟨j295_61, ej295_61, h⟩ := jk_at h
                                have J295_61 : ∀ (t_60 : Int32) (ls : Array Slot) (H : Heap) (locs : List Loc), lv_has ls 9 [(8, .int x8_55), (7, .int x7_49), (6, .int x6_44), (3, .int x3_27), (0, .ref a_this), (2, .int x2)] → Wd D A s (wX10_fits cB cI cZ av a_this v_thrown v_size v_begins v_entries v_length v_pressed v_streamFrames v_zeros v_level v_sum v_tail v_isPlayed v_found v_strange v_innerFails v_outerFails v_mostMarks v_unsure v_may v_mocks v_sumThen v_logs v_places v_powers v_rows_56 v_syndromes v_values) H locs → j295_61 t_60 = some res → W p l e (rmK 1 24) s m ([.ref a_this, .int x1, .int x2] : List Value).toArray below meth c H locs 0 0 (MQ below (QG D (tyL cB cI cZ) A (fun res : Int32 × (Nat → Int32) × (Nat → Int32) => some (.int res.1)) (fun res : Int32 × (Nat → Int32) × (Nat → Int32) => (wX10_fits cB cI cZ av a_this v_thrown v_size v_begins v_entries v_length v_pressed v_streamFrames v_zeros v_level v_sum v_tail v_isPlayed v_found v_strange v_innerFails v_outerFails v_mostMarks v_unsure v_may v_mocks v_sumThen v_logs v_places v_powers (res.2.1) v_syndromes (res.2.2))) res) ([.ref a_this, .int x1, .int x2] : List Value).toArray s 0 0 A) (F0 m 295 ls [.int t_60, .int (v_rows_56 (Int32.toNatClampNeg (((5 : Int32) * x6_44) + x8_55))), .int (((5 : Int32) * x6_44) + x8_55), .ref (av 27)]) := by
                                  intro t_60 ls H locs hl hw h
                                  have h := k1_at ej295_61 h
                                  refine lv_ixor (pc := 295) hx hb dX10_fits_295 ?_
                                  obtain ⟨hi_62, h⟩ := og_at h
                                  obtain ⟨v_rows_63, ev_rows_63⟩ : ∃ y : Nat → Int32, y = upd v_rows_56 (Int32.toNatClampNeg (((5 : Int32) * x6_44) + x8_55)) ((v_rows_56 (Int32.toNatClampNeg (((5 : Int32) * x6_44) + x8_55))) ^^^ t_60) := ⟨_, rfl⟩
                                  have h := nm_at ev_rows_63 h
                                  refine x_iast (pc := 296) (wX10_fits cB cI cZ av a_this v_thrown v_size v_begins v_entries v_length v_pressed v_streamFrames v_zeros v_level v_sum v_tail v_isPlayed v_found v_strange v_innerFails v_outerFails v_mostMarks v_unsure v_may v_mocks v_sumThen v_logs v_places v_powers v_rows_63 v_syndromes v_values) C hw 4 rfl hi_62 (by rw [ev_rows_63]; rfl) dX10_fits_296 (fun H locs hw => ?_)
                                  obtain ⟨x8_64, ex8_64⟩ : ∃ y : Int32, y = x8_55 + 1 := ⟨_, rfl⟩
                                  have h := nm_at ex8_64 h
                                  refine lv_iinc (pc := 297) (v := x8_64) (lv' := [(8, .int x8_64), (7, .int x7_49), (6, .int x6_44), (3, .int x3_27), (0, .ref a_this), (2, .int x2)]) hx hb dX10_fits_297 hl (k := 0) rfl (by rw [ex8_64]; rfl) (by decide) rfl (fun ls hl => ?_)
                                  refine lv_goto (pc := 300) (tgt := 233) hx hb dX10_fits_300 (by decide) ?_
                                  exact ih233_57 x8_64 v_rows_63 ls _ _ (lv_sub hl [0, 1, 2, 3, 4, 5] rfl) hw h
                                obtain ⟨j274_65, ej274_65, h⟩ := jk_at h
                                have J274_65 : ∀  (ls : Array Slot) (H : Heap) (locs : List Loc), lv_has ls 9 [(8, .int x8_55), (7, .int x7_49), (6, .int x6_44), (3, .int x3_27), (0, .ref a_this), (2, .int x2)] → Wd D A s (wX10_fits cB cI cZ av a_this v_thrown v_size v_begins v_entries v_length v_pressed v_streamFrames v_zeros v_level v_sum v_tail v_isPlayed v_found v_strange v_innerFails v_outerFails v_mostMarks v_unsure v_may v_mocks v_sumThen v_logs v_places v_powers v_rows_56 v_syndromes v_values) H locs → j274_65 = some res → W p l e (rmK 1 24) s m ([.ref a_this, .int x1, .int x2] : List Value).toArray below meth c H locs 0 0 (MQ below (QG D (tyL cB cI cZ) A (fun res : Int32 × (Nat → Int32) × (Nat → Int32) => some (.int res.1)) (fun res : Int32 × (Nat → Int32) × (Nat → Int32) => (wX10_fits cB cI cZ av a_this v_thrown v_size v_begins v_entries v_length v_pressed v_streamFrames v_zeros v_level v_sum v_tail v_isPlayed v_found v_strange v_innerFails v_outerFails v_mostMarks v_unsure v_may v_mocks v_sumThen v_logs v_places v_powers (res.2.1) v_syndromes (res.2.2))) res) ([.ref a_this, .int x1, .int x2] : List Value).toArray s 0 0 A) (F0 m 274 ls [.int (v_rows_56 (Int32.toNatClampNeg (((5 : Int32) * x6_44) + x8_55))), .int (((5 : Int32) * x6_44) + x8_55), .ref (av 27)]) := by
                                  intro  ls H locs hl hw h
                                  have h := k0_at ej274_65 h
                                  refine lv_aload_n (pc := 274) hx hb dX10_fits_274 rfl (lv_at hl 4 rfl) ?_
                                  refine lv_aload_n (pc := 275) hx hb dX10_fits_275 rfl (lv_at hl 4 rfl) ?_
                                  refine gf_X10_61 (pc := 276) C hw 0 rfl rfl dX10_fits_276 ?_
                                  refine lv_iconst (pc := 279) (v := 5) hx hb dX10_fits_279 (by decide) ?_
                                  refine lv_iload_n (pc := 280) hx hb dX10_fits_280 rfl (lv_at hl 3 rfl) ?_
                                  refine lv_imul (pc := 281) hx hb dX10_fits_281 ?_
                                  refine lv_iload (pc := 282) hx hb dX10_fits_282 (lv_at hl 0 rfl) ?_
                                  refine lv_iadd (pc := 284) hx hb dX10_fits_284 ?_
                                  obtain ⟨hi_66, h⟩ := og_at h
                                  refine x_iald (pc := 285) C hw 4 rfl hi_66 dX10_fits_285 ?_
                                  refine lv_iload (pc := 286) hx hb dX10_fits_286 (lv_at hl 1 rfl) ?_
                                  obtain ⟨r_67, hq_68, h⟩ := ob1_at h
                                  refine x_callV (pc := 288) (rest := [.int (v_rows_56 (Int32.toNatClampNeg (((5 : Int32) * x6_44) + x8_55))), .int (((5 : Int32) * x6_44) + x8_55), .ref (av 27)]) (stk := [.int r_67, .int (v_rows_56 (Int32.toNatClampNeg (((5 : Int32) * x6_44) + x8_55))), .int (((5 : Int32) * x6_44) + x8_55), .ref (av 27)]) (wX10_fits cB cI cZ av a_this v_thrown v_size v_begins v_entries v_length v_pressed v_streamFrames v_zeros v_level v_sum v_tail v_isPlayed v_found v_strange v_innerFails v_outerFails v_mostMarks v_unsure v_may v_mocks v_sumThen v_logs v_places v_powers v_rows_56 v_syndromes v_values) C hw (ct_X10_times l D cB cI cZ tw av a_this v_thrown v_size v_begins v_entries v_length v_pressed v_streamFrames v_zeros v_level v_sum v_tail v_isPlayed v_found v_strange v_innerFails v_outerFails v_mostMarks v_unsure v_may v_mocks v_sumThen v_logs v_powers (v_rows_56 (Int32.toNatClampNeg (((5 : Int32) * x3_27) + x8_55))) x7_49 r_67 hq_68) cal_X10_times tw_1244 (q0 := 0) rfl rfl [0, 1, 3] [2, 4, 5, 6] 7 [((av 25), .inl (cI, 4, .inl v_places)), ((av 27), .inl (cI, 20, .inl v_rows_56)), ((av 24), .inl (cI, 4, .inl v_syndromes)), ((av 26), .inl (cI, 4, .inl v_values))] rfl rfl rfl rfl rfl rfl rfl rfl rfl rfl rfl (Nat.le_of_ble_eq_true rfl) hl.1 ⟨Nat.le_of_ble_eq_true rfl, Nat.le_of_ble_eq_true rfl⟩ ⟨Nat.zero_le _, Nat.zero_le _⟩ dX10_fits_288 (fun H locs hw => ?_)
                                  refine lv_goto (pc := 291) (tgt := 295) hx hb dX10_fits_291 (by decide) ?_
                                  exact J295_61 r_67 ls _ _ (lv_sub hl [0, 1, 2, 3, 4, 5] rfl) hw h
                                refine lv_icmp_lt (pc := 265) (tgt := 274) hx hb dX10_fits_265 (by decide) (fun hc_69 => ?_) (fun hc_69 => ?_)
                                · have h := ift hc_69 h
                                  exact J274_65  ls _ _ (lv_sub hl [0, 1, 2, 3, 4, 5] rfl) hw h
                                · have h := iff' hc_69 h
                                  refine lv_iload (pc := 268) hx hb dX10_fits_268 (lv_at hl 0 rfl) ?_
                                  refine lv_iconst (pc := 270) (v := 4) hx hb dX10_fits_270 (by decide) ?_
                                  refine lv_icmp_ne (pc := 271) (tgt := 294) hx hb dX10_fits_271 (by decide) (fun hc_70 => ?_) (fun hc_70 => ?_)
                                  · have h := iff' hc_70 h
                                    refine lv_iconst (pc := 294) (v := 0) hx hb dX10_fits_294 (by decide) ?_
                                    exact J295_61 0 ls _ _ (lv_sub hl [0, 1, 2, 3, 4, 5] rfl) hw h
                                  · have h := ift hc_70 h
                                    exact J274_65  ls _ _ (lv_sub hl [0, 1, 2, 3, 4, 5] rfl) hw h
                          exact Lih233_57 FU 0 v_rows_45 ls _ _ (lv_sub hl [0, 1, 2, 3, 4, 5] rfl) hw h
                        · have h := ift hc_54 h
                          refine lv_goto (pc := 227) (tgt := 303) hx hb dX10_fits_227 (by decide) ?_
                          exact J303_51 v_rows_45 ls _ _ (lv_sub hl [1, 2, 3, 4] rfl) hw h
                exact Lih197_46 FU 0 v_rows_39 ls _ _ (lv_sub hl [0, 1, 2, 3] rfl) hw h
              have Lih138_73 : ∀ (F : Nat) (x6_71 : Int32) (v_rows_72 : Nat → Int32) (ls : Array Slot) (H : Heap) (locs : List Loc), lv_has ls 9 [(6, .int x6_71), (5, .int r_37), (3, .int x3_27), (0, .ref a_this), (2, .int x2)] → Wd D A s (wX10_fits cB cI cZ av a_this v_thrown v_size v_begins v_entries v_length v_pressed v_streamFrames v_zeros v_level v_sum v_tail v_isPlayed v_found v_strange v_innerFails v_outerFails v_mostMarks v_unsure v_may v_mocks v_sumThen v_logs v_places v_powers v_rows_72 v_syndromes v_values) H locs → fX10_fits_L138 j194_40 x3_27 v_logs v_powers r_37 x2 F x6_71 v_rows_72 = some res → W p l e (rmK 1 24) s m ([.ref a_this, .int x1, .int x2] : List Value).toArray below meth c H locs 0 0 (MQ below (QG D (tyL cB cI cZ) A (fun res : Int32 × (Nat → Int32) × (Nat → Int32) => some (.int res.1)) (fun res : Int32 × (Nat → Int32) × (Nat → Int32) => (wX10_fits cB cI cZ av a_this v_thrown v_size v_begins v_entries v_length v_pressed v_streamFrames v_zeros v_level v_sum v_tail v_isPlayed v_found v_strange v_innerFails v_outerFails v_mostMarks v_unsure v_may v_mocks v_sumThen v_logs v_places v_powers (res.2.1) v_syndromes (res.2.2))) res) ([.ref a_this, .int x1, .int x2] : List Value).toArray s 0 0 A) (F0 m 138 ls []) := by
                intro F
                induction F with
                | zero => intro x6_71 v_rows_72 ls H locs hl hw h; rw [fX10_fits_L138.eq_1] at h; cases h
                | succ F138_73 ih138_73 =>
                  intro x6_71 v_rows_72 ls H locs hl hw h
                  rw [fX10_fits_L138.eq_2] at h
                  refine lv_iload (pc := 138) hx hb dX10_fits_138 (lv_at hl 0 rfl) ?_
                  refine lv_iconst (pc := 140) (v := 5) hx hb dX10_fits_140 (by decide) ?_
                  refine lv_icmp_ge (pc := 141) (tgt := 194) hx hb dX10_fits_141 (by decide) (fun hc_74 => ?_) (fun hc_74 => ?_)
                  · have h := ift hc_74 h
                    exact J194_40 v_rows_72 ls _ _ (lv_sub hl [2, 3, 4] rfl) hw h
                  · have h := iff' hc_74 h
                    refine lv_aload_n (pc := 144) hx hb dX10_fits_144 rfl (lv_at hl 3 rfl) ?_
                    refine gf_X10_61 (pc := 145) C hw 0 rfl rfl dX10_fits_145 ?_
                    refine lv_iconst (pc := 148) (v := 5) hx hb dX10_fits_148 (by decide) ?_
                    refine lv_iload_n (pc := 149) hx hb dX10_fits_149 rfl (lv_at hl 2 rfl) ?_
                    refine lv_imul (pc := 150) hx hb dX10_fits_150 ?_
                    refine lv_iload (pc := 151) hx hb dX10_fits_151 (lv_at hl 0 rfl) ?_
                    refine lv_iadd (pc := 153) hx hb dX10_fits_153 ?_
                    refine lv_iload (pc := 154) hx hb dX10_fits_154 (lv_at hl 0 rfl) ?_
                    refine lv_iload_n (pc := 156) hx hb dX10_fits_156 rfl (lv_at hl 4 rfl) ?_
                    obtain ⟨j187_76, ej187_76, h⟩ := jk_at h
                    have J187_76 : ∀ (t_75 : Int32) (ls : Array Slot) (H : Heap) (locs : List Loc), lv_has ls 9 [(6, .int x6_71), (5, .int r_37), (3, .int x3_27), (0, .ref a_this), (2, .int x2)] → Wd D A s (wX10_fits cB cI cZ av a_this v_thrown v_size v_begins v_entries v_length v_pressed v_streamFrames v_zeros v_level v_sum v_tail v_isPlayed v_found v_strange v_innerFails v_outerFails v_mostMarks v_unsure v_may v_mocks v_sumThen v_logs v_places v_powers v_rows_72 v_syndromes v_values) H locs → j187_76 t_75 = some res → W p l e (rmK 1 24) s m ([.ref a_this, .int x1, .int x2] : List Value).toArray below meth c H locs 0 0 (MQ below (QG D (tyL cB cI cZ) A (fun res : Int32 × (Nat → Int32) × (Nat → Int32) => some (.int res.1)) (fun res : Int32 × (Nat → Int32) × (Nat → Int32) => (wX10_fits cB cI cZ av a_this v_thrown v_size v_begins v_entries v_length v_pressed v_streamFrames v_zeros v_level v_sum v_tail v_isPlayed v_found v_strange v_innerFails v_outerFails v_mostMarks v_unsure v_may v_mocks v_sumThen v_logs v_places v_powers (res.2.1) v_syndromes (res.2.2))) res) ([.ref a_this, .int x1, .int x2] : List Value).toArray s 0 0 A) (F0 m 187 ls [.int t_75, .int (((5 : Int32) * x3_27) + x6_71), .ref (av 27)]) := by
                      intro t_75 ls H locs hl hw h
                      have h := k1_at ej187_76 h
                      obtain ⟨hi_77, h⟩ := og_at h
                      obtain ⟨v_rows_78, ev_rows_78⟩ : ∃ y : Nat → Int32, y = upd v_rows_72 (Int32.toNatClampNeg (((5 : Int32) * x3_27) + x6_71)) t_75 := ⟨_, rfl⟩
                      have h := nm_at ev_rows_78 h
                      refine x_iast (pc := 187) (wX10_fits cB cI cZ av a_this v_thrown v_size v_begins v_entries v_length v_pressed v_streamFrames v_zeros v_level v_sum v_tail v_isPlayed v_found v_strange v_innerFails v_outerFails v_mostMarks v_unsure v_may v_mocks v_sumThen v_logs v_places v_powers v_rows_78 v_syndromes v_values) C hw 4 rfl hi_77 (by rw [ev_rows_78]; rfl) dX10_fits_187 (fun H locs hw => ?_)
                      obtain ⟨x6_79, ex6_79⟩ : ∃ y : Int32, y = x6_71 + 1 := ⟨_, rfl⟩
                      have h := nm_at ex6_79 h
                      refine lv_iinc (pc := 188) (v := x6_79) (lv' := [(6, .int x6_79), (5, .int r_37), (3, .int x3_27), (0, .ref a_this), (2, .int x2)]) hx hb dX10_fits_188 hl (k := 0) rfl (by rw [ex6_79]; rfl) (by decide) rfl (fun ls hl => ?_)
                      refine lv_goto (pc := 191) (tgt := 138) hx hb dX10_fits_191 (by decide) ?_
                      exact ih138_73 x6_79 v_rows_78 ls _ _ (lv_sub hl [0, 1, 2, 3, 4] rfl) hw h
                    obtain ⟨j166_80, ej166_80, h⟩ := jk_at h
                    have J166_80 : ∀  (ls : Array Slot) (H : Heap) (locs : List Loc), lv_has ls 9 [(6, .int x6_71), (5, .int r_37), (3, .int x3_27), (0, .ref a_this), (2, .int x2)] → Wd D A s (wX10_fits cB cI cZ av a_this v_thrown v_size v_begins v_entries v_length v_pressed v_streamFrames v_zeros v_level v_sum v_tail v_isPlayed v_found v_strange v_innerFails v_outerFails v_mostMarks v_unsure v_may v_mocks v_sumThen v_logs v_places v_powers v_rows_72 v_syndromes v_values) H locs → j166_80 = some res → W p l e (rmK 1 24) s m ([.ref a_this, .int x1, .int x2] : List Value).toArray below meth c H locs 0 0 (MQ below (QG D (tyL cB cI cZ) A (fun res : Int32 × (Nat → Int32) × (Nat → Int32) => some (.int res.1)) (fun res : Int32 × (Nat → Int32) × (Nat → Int32) => (wX10_fits cB cI cZ av a_this v_thrown v_size v_begins v_entries v_length v_pressed v_streamFrames v_zeros v_level v_sum v_tail v_isPlayed v_found v_strange v_innerFails v_outerFails v_mostMarks v_unsure v_may v_mocks v_sumThen v_logs v_places v_powers (res.2.1) v_syndromes (res.2.2))) res) ([.ref a_this, .int x1, .int x2] : List Value).toArray s 0 0 A) (F0 m 166 ls [.int (((5 : Int32) * x3_27) + x6_71), .ref (av 27)]) := by
                      intro  ls H locs hl hw h
                      have h := k0_at ej166_80 h
                      refine lv_aload_n (pc := 166) hx hb dX10_fits_166 rfl (lv_at hl 3 rfl) ?_
                      refine lv_aload_n (pc := 167) hx hb dX10_fits_167 rfl (lv_at hl 3 rfl) ?_
                      refine gf_X10_61 (pc := 168) C hw 0 rfl rfl dX10_fits_168 ?_
                      refine lv_iconst (pc := 171) (v := 5) hx hb dX10_fits_171 (by decide) ?_
                      refine lv_iload_n (pc := 172) hx hb dX10_fits_172 rfl (lv_at hl 2 rfl) ?_
                      refine lv_imul (pc := 173) hx hb dX10_fits_173 ?_
                      refine lv_iload (pc := 174) hx hb dX10_fits_174 (lv_at hl 0 rfl) ?_
                      refine lv_iadd (pc := 176) hx hb dX10_fits_176 ?_
                      obtain ⟨hi_81, h⟩ := og_at h
                      refine x_iald (pc := 177) C hw 4 rfl hi_81 dX10_fits_177 ?_
                      refine lv_iload (pc := 178) hx hb dX10_fits_178 (lv_at hl 1 rfl) ?_
                      obtain ⟨r_82, hq_83, h⟩ := ob1_at h
                      refine x_callV (pc := 180) (rest := [.int (((5 : Int32) * x3_27) + x6_71), .ref (av 27)]) (stk := [.int r_82, .int (((5 : Int32) * x3_27) + x6_71), .ref (av 27)]) (wX10_fits cB cI cZ av a_this v_thrown v_size v_begins v_entries v_length v_pressed v_streamFrames v_zeros v_level v_sum v_tail v_isPlayed v_found v_strange v_innerFails v_outerFails v_mostMarks v_unsure v_may v_mocks v_sumThen v_logs v_places v_powers v_rows_72 v_syndromes v_values) C hw (ct_X10_times l D cB cI cZ tw av a_this v_thrown v_size v_begins v_entries v_length v_pressed v_streamFrames v_zeros v_level v_sum v_tail v_isPlayed v_found v_strange v_innerFails v_outerFails v_mostMarks v_unsure v_may v_mocks v_sumThen v_logs v_powers (v_rows_72 (Int32.toNatClampNeg (((5 : Int32) * x3_27) + x6_71))) r_37 r_82 hq_83) cal_X10_times tw_1244 (q0 := 0) rfl rfl [0, 1, 3] [2, 4, 5, 6] 7 [((av 25), .inl (cI, 4, .inl v_places)), ((av 27), .inl (cI, 20, .inl v_rows_72)), ((av 24), .inl (cI, 4, .inl v_syndromes)), ((av 26), .inl (cI, 4, .inl v_values))] rfl rfl rfl rfl rfl rfl rfl rfl rfl rfl rfl (Nat.le_of_ble_eq_true rfl) hl.1 ⟨Nat.le_of_ble_eq_true rfl, Nat.le_of_ble_eq_true rfl⟩ ⟨Nat.zero_le _, Nat.zero_le _⟩ dX10_fits_180 (fun H locs hw => ?_)
                      refine lv_goto (pc := 183) (tgt := 187) hx hb dX10_fits_183 (by decide) ?_
                      exact J187_76 r_82 ls _ _ (lv_sub hl [0, 1, 2, 3, 4] rfl) hw h
                    refine lv_icmp_lt (pc := 157) (tgt := 166) hx hb dX10_fits_157 (by decide) (fun hc_84 => ?_) (fun hc_84 => ?_)
                    · have h := ift hc_84 h
                      exact J166_80  ls _ _ (lv_sub hl [0, 1, 2, 3, 4] rfl) hw h
                    · have h := iff' hc_84 h
                      refine lv_iload (pc := 160) hx hb dX10_fits_160 (lv_at hl 0 rfl) ?_
                      refine lv_iconst (pc := 162) (v := 4) hx hb dX10_fits_162 (by decide) ?_
                      refine lv_icmp_ne (pc := 163) (tgt := 186) hx hb dX10_fits_163 (by decide) (fun hc_85 => ?_) (fun hc_85 => ?_)
                      · have h := iff' hc_85 h
                        refine lv_iconst (pc := 186) (v := 0) hx hb dX10_fits_186 (by decide) ?_
                        exact J187_76 0 ls _ _ (lv_sub hl [0, 1, 2, 3, 4] rfl) hw h
                      · have h := ift hc_85 h
                        exact J166_80  ls _ _ (lv_sub hl [0, 1, 2, 3, 4] rfl) hw h
              exact Lih138_73 FU 0 v_rows_34 ls _ _ (lv_sub hl [0, 1, 3, 4, 5] rfl) hw h
            · have h := ift hc_33 h
              refine lv_iconst (pc := 110) (v := 0) hx hb dX10_fits_110 (by decide) ?_
              exact x_zret (pc := 111) (v := (0, v_rows_28, v_values)) C (Option.some.inj h) rfl rfl hw dX10_fits_111
          have Lih78_87 : ∀ (F : Nat) (x4_86 : Int32) (ls : Array Slot) (H : Heap) (locs : List Loc), lv_has ls 9 [(4, .int x4_86), (3, .int x3_27), (0, .ref a_this), (2, .int x2)] → Wd D A s (wX10_fits cB cI cZ av a_this v_thrown v_size v_begins v_entries v_length v_pressed v_streamFrames v_zeros v_level v_sum v_tail v_isPlayed v_found v_strange v_innerFails v_outerFails v_mostMarks v_unsure v_may v_mocks v_sumThen v_logs v_places v_powers v_rows_28 v_syndromes v_values) H locs → fX10_fits_L78 j104_32 x3_27 v_rows_28 F x4_86 = some res → W p l e (rmK 1 24) s m ([.ref a_this, .int x1, .int x2] : List Value).toArray below meth c H locs 0 0 (MQ below (QG D (tyL cB cI cZ) A (fun res : Int32 × (Nat → Int32) × (Nat → Int32) => some (.int res.1)) (fun res : Int32 × (Nat → Int32) × (Nat → Int32) => (wX10_fits cB cI cZ av a_this v_thrown v_size v_begins v_entries v_length v_pressed v_streamFrames v_zeros v_level v_sum v_tail v_isPlayed v_found v_strange v_innerFails v_outerFails v_mostMarks v_unsure v_may v_mocks v_sumThen v_logs v_places v_powers (res.2.1) v_syndromes (res.2.2))) res) ([.ref a_this, .int x1, .int x2] : List Value).toArray s 0 0 A) (F0 m 78 ls []) := by
            intro F
            induction F with
            | zero => intro x4_86 ls H locs hl hw h; rw [fX10_fits_L78.eq_1] at h; cases h
            | succ F78_87 ih78_87 =>
              intro x4_86 ls H locs hl hw h
              rw [fX10_fits_L78.eq_2] at h
              refine lv_iload (pc := 78) hx hb dX10_fits_78 (lv_at hl 0 rfl) ?_
              refine lv_iconst (pc := 80) (v := 4) hx hb dX10_fits_80 (by decide) ?_
              refine lv_icmp_ge (pc := 81) (tgt := 104) hx hb dX10_fits_81 (by decide) (fun hc_88 => ?_) (fun hc_88 => ?_)
              · have h := ift hc_88 h
                exact J104_32 x4_86 ls _ _ (lv_sub hl [0, 1, 2, 3] rfl) hw h
              · have h := iff' hc_88 h
                refine lv_aload_n (pc := 84) hx hb dX10_fits_84 rfl (lv_at hl 2 rfl) ?_
                refine gf_X10_61 (pc := 85) C hw 0 rfl rfl dX10_fits_85 ?_
                refine lv_iconst (pc := 88) (v := 5) hx hb dX10_fits_88 (by decide) ?_
                refine lv_iload (pc := 89) hx hb dX10_fits_89 (lv_at hl 0 rfl) ?_
                refine lv_imul (pc := 91) hx hb dX10_fits_91 ?_
                refine lv_iload_n (pc := 92) hx hb dX10_fits_92 rfl (lv_at hl 1 rfl) ?_
                refine lv_iadd (pc := 93) hx hb dX10_fits_93 ?_
                obtain ⟨hi_89, h⟩ := og_at h
                refine x_iald (pc := 94) C hw 4 rfl hi_89 dX10_fits_94 ?_
                refine lv_if_ne (pc := 95) (tgt := 104) hx hb dX10_fits_95 (by decide) (fun hc_90 => ?_) (fun hc_90 => ?_)
                · have h := iff' hc_90 h
                  exact J104_32 x4_86 ls _ _ (lv_sub hl [0, 1, 2, 3] rfl) hw h
                · have h := ift hc_90 h
                  obtain ⟨x4_91, ex4_91⟩ : ∃ y : Int32, y = x4_86 + 1 := ⟨_, rfl⟩
                  have h := nm_at ex4_91 h
                  refine lv_iinc (pc := 98) (v := x4_91) (lv' := [(4, .int x4_91), (3, .int x3_27), (0, .ref a_this), (2, .int x2)]) hx hb dX10_fits_98 hl (k := 0) rfl (by rw [ex4_91]; rfl) (by decide) rfl (fun ls hl => ?_)
                  refine lv_goto (pc := 101) (tgt := 78) hx hb dX10_fits_101 (by decide) ?_
                  exact ih78_87 x4_91 ls _ _ (lv_sub hl [0, 1, 2, 3] rfl) hw h
          exact Lih78_87 FU x3_27 ls _ _ (lv_sub hl [0, 1, 2, 3] rfl) hw h
    exact Lih70_29 FU 0 v_rows_1 ls _ _ (lv_sub hl [0, 1, 2] rfl) hw h
  have Lih2_94 : ∀ (F : Nat) (x3_92 : Int32) (v_rows_93 : Nat → Int32) (ls : Array Slot) (H : Heap) (locs : List Loc), lv_has ls 9 [(3, .int x3_92), (0, .ref a_this), (1, .int x1), (2, .int x2)] → Wd D A s (wX10_fits cB cI cZ av a_this v_thrown v_size v_begins v_entries v_length v_pressed v_streamFrames v_zeros v_level v_sum v_tail v_isPlayed v_found v_strange v_innerFails v_outerFails v_mostMarks v_unsure v_may v_mocks v_sumThen v_logs v_places v_powers v_rows_93 v_syndromes v_values) H locs → fX10_fits_L2 j68_2 v_syndromes x2 v_powers x1 v_places F x3_92 v_rows_93 = some res → W p l e (rmK 1 24) s m ([.ref a_this, .int x1, .int x2] : List Value).toArray below meth c H locs 0 0 (MQ below (QG D (tyL cB cI cZ) A (fun res : Int32 × (Nat → Int32) × (Nat → Int32) => some (.int res.1)) (fun res : Int32 × (Nat → Int32) × (Nat → Int32) => (wX10_fits cB cI cZ av a_this v_thrown v_size v_begins v_entries v_length v_pressed v_streamFrames v_zeros v_level v_sum v_tail v_isPlayed v_found v_strange v_innerFails v_outerFails v_mostMarks v_unsure v_may v_mocks v_sumThen v_logs v_places v_powers (res.2.1) v_syndromes (res.2.2))) res) ([.ref a_this, .int x1, .int x2] : List Value).toArray s 0 0 A) (F0 m 2 ls []) := by
    intro F
    induction F with
    | zero => intro x3_92 v_rows_93 ls H locs hl hw h; rw [fX10_fits_L2.eq_1] at h; cases h
    | succ F2_94 ih2_94 =>
      intro x3_92 v_rows_93 ls H locs hl hw h
      rw [fX10_fits_L2.eq_2] at h
      refine lv_iload_n (pc := 2) hx hb dX10_fits_2 rfl (lv_at hl 0 rfl) ?_
      refine lv_iconst (pc := 3) (v := 4) hx hb dX10_fits_3 (by decide) ?_
      refine lv_icmp_ge (pc := 4) (tgt := 68) hx hb dX10_fits_4 (by decide) (fun hc_95 => ?_) (fun hc_95 => ?_)
      · have h := ift hc_95 h
        exact J68_2 v_rows_93 ls _ _ (lv_sub hl [1, 3] rfl) hw h
      · have h := iff' hc_95 h
        refine lv_iconst (pc := 7) (v := 0) hx hb dX10_fits_7 (by decide) ?_
        refine lv_istore (pc := 8) (lv' := [(4, .int 0), (3, .int x3_92), (0, .ref a_this), (1, .int x1), (2, .int x2)]) hx hb dX10_fits_8 hl (by decide) rfl (fun ls hl => ?_)
        obtain ⟨j46_97, ej46_97, h⟩ := jk_at h
        have J46_97 : ∀ (v_rows_96 : Nat → Int32) (ls : Array Slot) (H : Heap) (locs : List Loc), lv_has ls 9 [(3, .int x3_92), (0, .ref a_this), (1, .int x1), (2, .int x2)] → Wd D A s (wX10_fits cB cI cZ av a_this v_thrown v_size v_begins v_entries v_length v_pressed v_streamFrames v_zeros v_level v_sum v_tail v_isPlayed v_found v_strange v_innerFails v_outerFails v_mostMarks v_unsure v_may v_mocks v_sumThen v_logs v_places v_powers v_rows_96 v_syndromes v_values) H locs → j46_97 v_rows_96 = some res → W p l e (rmK 1 24) s m ([.ref a_this, .int x1, .int x2] : List Value).toArray below meth c H locs 0 0 (MQ below (QG D (tyL cB cI cZ) A (fun res : Int32 × (Nat → Int32) × (Nat → Int32) => some (.int res.1)) (fun res : Int32 × (Nat → Int32) × (Nat → Int32) => (wX10_fits cB cI cZ av a_this v_thrown v_size v_begins v_entries v_length v_pressed v_streamFrames v_zeros v_level v_sum v_tail v_isPlayed v_found v_strange v_innerFails v_outerFails v_mostMarks v_unsure v_may v_mocks v_sumThen v_logs v_places v_powers (res.2.1) v_syndromes (res.2.2))) res) ([.ref a_this, .int x1, .int x2] : List Value).toArray s 0 0 A) (F0 m 46 ls []) := by
          intro v_rows_96 ls H locs hl hw h
          have h := k1_at ej46_97 h
          refine lv_aload_n (pc := 46) hx hb dX10_fits_46 rfl (lv_at hl 1 rfl) ?_
          refine gf_X10_61 (pc := 47) C hw 0 rfl rfl dX10_fits_47 ?_
          refine lv_iconst (pc := 50) (v := 5) hx hb dX10_fits_50 (by decide) ?_
          refine lv_iload_n (pc := 51) hx hb dX10_fits_51 rfl (lv_at hl 0 rfl) ?_
          refine lv_imul (pc := 52) hx hb dX10_fits_52 ?_
          refine lv_iconst (pc := 53) (v := 4) hx hb dX10_fits_53 (by decide) ?_
          refine lv_iadd (pc := 54) hx hb dX10_fits_54 ?_
          refine lv_aload_n (pc := 55) hx hb dX10_fits_55 rfl (lv_at hl 1 rfl) ?_
          refine gf_X10_52 (pc := 56) C hw 0 rfl rfl dX10_fits_56 ?_
          refine lv_iload_n (pc := 59) hx hb dX10_fits_59 rfl (lv_at hl 0 rfl) ?_
          obtain ⟨hi_98, h⟩ := og_at h
          refine x_iald (pc := 60) C hw 5 rfl hi_98 dX10_fits_60 ?_
          obtain ⟨hi_99, h⟩ := og_at h
          obtain ⟨v_rows_100, ev_rows_100⟩ : ∃ y : Nat → Int32, y = upd v_rows_96 (Int32.toNatClampNeg (((5 : Int32) * x3_92) + (4 : Int32))) (v_syndromes (Int32.toNatClampNeg x3_92)) := ⟨_, rfl⟩
          have h := nm_at ev_rows_100 h
          refine x_iast (pc := 61) (wX10_fits cB cI cZ av a_this v_thrown v_size v_begins v_entries v_length v_pressed v_streamFrames v_zeros v_level v_sum v_tail v_isPlayed v_found v_strange v_innerFails v_outerFails v_mostMarks v_unsure v_may v_mocks v_sumThen v_logs v_places v_powers v_rows_100 v_syndromes v_values) C hw 4 rfl hi_99 (by rw [ev_rows_100]; rfl) dX10_fits_61 (fun H locs hw => ?_)
          obtain ⟨x3_101, ex3_101⟩ : ∃ y : Int32, y = x3_92 + 1 := ⟨_, rfl⟩
          have h := nm_at ex3_101 h
          refine lv_iinc (pc := 62) (v := x3_101) (lv' := [(3, .int x3_101), (0, .ref a_this), (1, .int x1), (2, .int x2)]) hx hb dX10_fits_62 hl (k := 0) rfl (by rw [ex3_101]; rfl) (by decide) rfl (fun ls hl => ?_)
          refine lv_goto (pc := 65) (tgt := 2) hx hb dX10_fits_65 (by decide) ?_
          exact ih2_94 x3_101 v_rows_100 ls _ _ (lv_sub hl [0, 1, 2, 3] rfl) hw h
        have Lih10_104 : ∀ (F : Nat) (x4_102 : Int32) (v_rows_103 : Nat → Int32) (ls : Array Slot) (H : Heap) (locs : List Loc), lv_has ls 9 [(4, .int x4_102), (3, .int x3_92), (0, .ref a_this), (1, .int x1), (2, .int x2)] → Wd D A s (wX10_fits cB cI cZ av a_this v_thrown v_size v_begins v_entries v_length v_pressed v_streamFrames v_zeros v_level v_sum v_tail v_isPlayed v_found v_strange v_innerFails v_outerFails v_mostMarks v_unsure v_may v_mocks v_sumThen v_logs v_places v_powers v_rows_103 v_syndromes v_values) H locs → fX10_fits_L10 x2 j46_97 v_powers x3_92 x1 v_places F x4_102 v_rows_103 = some res → W p l e (rmK 1 24) s m ([.ref a_this, .int x1, .int x2] : List Value).toArray below meth c H locs 0 0 (MQ below (QG D (tyL cB cI cZ) A (fun res : Int32 × (Nat → Int32) × (Nat → Int32) => some (.int res.1)) (fun res : Int32 × (Nat → Int32) × (Nat → Int32) => (wX10_fits cB cI cZ av a_this v_thrown v_size v_begins v_entries v_length v_pressed v_streamFrames v_zeros v_level v_sum v_tail v_isPlayed v_found v_strange v_innerFails v_outerFails v_mostMarks v_unsure v_may v_mocks v_sumThen v_logs v_places v_powers (res.2.1) v_syndromes (res.2.2))) res) ([.ref a_this, .int x1, .int x2] : List Value).toArray s 0 0 A) (F0 m 10 ls []) := by
          intro F
          induction F with
          | zero => intro x4_102 v_rows_103 ls H locs hl hw h; rw [fX10_fits_L10.eq_1] at h; cases h
          | succ F10_104 ih10_104 =>
            intro x4_102 v_rows_103 ls H locs hl hw h
            rw [fX10_fits_L10.eq_2] at h
            refine lv_iload (pc := 10) hx hb dX10_fits_10 (lv_at hl 0 rfl) ?_
            refine lv_iload_n (pc := 12) hx hb dX10_fits_12 rfl (lv_at hl 4 rfl) ?_
            refine lv_icmp_ge (pc := 13) (tgt := 46) hx hb dX10_fits_13 (by decide) (fun hc_105 => ?_) (fun hc_105 => ?_)
            · have h := ift hc_105 h
              exact J46_97 v_rows_103 ls _ _ (lv_sub hl [1, 2, 3, 4] rfl) hw h
            · have h := iff' hc_105 h
              refine lv_aload_n (pc := 16) hx hb dX10_fits_16 rfl (lv_at hl 2 rfl) ?_
              refine gf_X10_61 (pc := 17) C hw 0 rfl rfl dX10_fits_17 ?_
              refine lv_iconst (pc := 20) (v := 5) hx hb dX10_fits_20 (by decide) ?_
              refine lv_iload_n (pc := 21) hx hb dX10_fits_21 rfl (lv_at hl 1 rfl) ?_
              refine lv_imul (pc := 22) hx hb dX10_fits_22 ?_
              refine lv_iload (pc := 23) hx hb dX10_fits_23 (lv_at hl 0 rfl) ?_
              refine lv_iadd (pc := 25) hx hb dX10_fits_25 ?_
              refine lv_aload_n (pc := 26) hx hb dX10_fits_26 rfl (lv_at hl 2 rfl) ?_
              refine lv_iload_n (pc := 27) hx hb dX10_fits_27 rfl (lv_at hl 1 rfl) ?_
              refine lv_iload_n (pc := 28) hx hb dX10_fits_28 rfl (lv_at hl 3 rfl) ?_
              refine lv_aload_n (pc := 29) hx hb dX10_fits_29 rfl (lv_at hl 2 rfl) ?_
              refine gf_X10_55 (pc := 30) C hw 0 rfl rfl dX10_fits_30 ?_
              refine lv_iload (pc := 33) hx hb dX10_fits_33 (lv_at hl 0 rfl) ?_
              obtain ⟨hi_106, h⟩ := og_at h
              refine x_iald (pc := 35) C hw 2 rfl hi_106 dX10_fits_35 ?_
              obtain ⟨r_107, hq_108, h⟩ := ob1_at h
              refine x_callV (pc := 36) (rest := [.int (((5 : Int32) * x3_92) + x4_102), .ref (av 27)]) (stk := [.int r_107, .int (((5 : Int32) * x3_92) + x4_102), .ref (av 27)]) (wX10_fits cB cI cZ av a_this v_thrown v_size v_begins v_entries v_length v_pressed v_streamFrames v_zeros v_level v_sum v_tail v_isPlayed v_found v_strange v_innerFails v_outerFails v_mostMarks v_unsure v_may v_mocks v_sumThen v_logs v_places v_powers v_rows_103 v_syndromes v_values) C hw (ct_X10_power l D cB cI cZ tw av a_this v_thrown v_size v_begins v_entries v_length v_pressed v_streamFrames v_zeros v_level v_sum v_tail v_isPlayed v_found v_strange v_innerFails v_outerFails v_mostMarks v_unsure v_may v_mocks v_sumThen v_powers x3_92 x1 (v_places (Int32.toNatClampNeg x4_102)) r_107 hq_108) cal_X10_power tw_1240 (q0 := 0) rfl rfl [0, 3] [1, 2, 4, 5, 6] 7 [((av 4), .inl (cI, 256, .inl v_logs)), ((av 25), .inl (cI, 4, .inl v_places)), ((av 27), .inl (cI, 20, .inl v_rows_103)), ((av 24), .inl (cI, 4, .inl v_syndromes)), ((av 26), .inl (cI, 4, .inl v_values))] rfl rfl rfl rfl rfl rfl rfl rfl rfl rfl rfl (Nat.le_of_ble_eq_true rfl) hl.1 ⟨Nat.le_of_ble_eq_true rfl, Nat.le_of_ble_eq_true rfl⟩ ⟨Nat.zero_le _, Nat.zero_le _⟩ dX10_fits_36 (fun H locs hw => ?_)
              obtain ⟨hi_109, h⟩ := og_at h
              obtain ⟨v_rows_110, ev_rows_110⟩ : ∃ y : Nat → Int32, y = upd v_rows_103 (Int32.toNatClampNeg (((5 : Int32) * x3_92) + x4_102)) r_107 := ⟨_, rfl⟩
              have h := nm_at ev_rows_110 h
              refine x_iast (pc := 39) (wX10_fits cB cI cZ av a_this v_thrown v_size v_begins v_entries v_length v_pressed v_streamFrames v_zeros v_level v_sum v_tail v_isPlayed v_found v_strange v_innerFails v_outerFails v_mostMarks v_unsure v_may v_mocks v_sumThen v_logs v_places v_powers v_rows_110 v_syndromes v_values) C hw 4 rfl hi_109 (by rw [ev_rows_110]; rfl) dX10_fits_39 (fun H locs hw => ?_)
              obtain ⟨x4_111, ex4_111⟩ : ∃ y : Int32, y = x4_102 + 1 := ⟨_, rfl⟩
              have h := nm_at ex4_111 h
              refine lv_iinc (pc := 40) (v := x4_111) (lv' := [(4, .int x4_111), (3, .int x3_92), (0, .ref a_this), (1, .int x1), (2, .int x2)]) hx hb dX10_fits_40 hl (k := 0) rfl (by rw [ex4_111]; rfl) (by decide) rfl (fun ls hl => ?_)
              refine lv_goto (pc := 43) (tgt := 10) hx hb dX10_fits_43 (by decide) ?_
              exact ih10_104 x4_111 v_rows_110 ls _ _ (lv_sub hl [0, 1, 2, 3, 4] rfl) hw h
        exact Lih10_104 FU 0 v_rows_93 ls _ _ (lv_sub hl [0, 1, 2, 3, 4] rfl) hw h
  exact Lih2_94 FU 0 v_rows ls _ _ (lv_sub hl [0, 1, 2, 3] rfl) hw h
def wX10_changed (cB cI cZ : ClassId) (av : Nat → Nat) (a_this : Nat) (v_thrown : Int32) (v_size : Int32) (v_begins : Int32) (v_entries : Int32) (v_length : Int32) (v_pressed : Int32) (v_streamFrames : Int32) (v_zeros : Int32) (v_level : Int32) (v_sum : Int32) (v_tail : Int32) (v_isPlayed : Int32) (v_found : Int32) (v_strange : Int32) (v_innerFails : Int32) (v_outerFails : Int32) (v_mostMarks : Int32) (v_unsure : Int32) (v_may : Int32) (v_mocks : Int32) (v_sumThen : Int32) (v_places : Nat → Int32) (v_values : Nat → Int32) (v_word : Nat → Int32) : va_W := [oX10 a_this av v_thrown v_size v_begins v_entries v_length v_pressed v_streamFrames v_zeros v_level v_sum v_tail v_isPlayed v_found v_strange v_innerFails v_outerFails v_mostMarks v_unsure v_may v_mocks v_sumThen, ((av 25), .inl (cI, 4, .inl v_places)), ((av 26), .inl (cI, 4, .inl v_values)), ((av 22), .inl (cI, 32, .inl v_word))]
def fX10_changed_L2 (x1 : Int32) (v_places : Nat → Int32) (v_values : Nat → Int32) : Nat → Int32 → (Nat → Int32) → Option (Int32 × (Nat → Int32))
  | 0, _, _ => none
  | F2_3 + 1, x2_1, v_word_2 => if x1 ≤ x2_1 then some (x1, v_word_2) else og (ixb x2_1 4) (og (ixb x2_1 4) (og (ixb (v_places (Int32.toNatClampNeg x2_1)) 32) (og (ixb x2_1 4) (og (ixb (v_places (Int32.toNatClampNeg x2_1)) 32) (nm (upd v_word_2 (Int32.toNatClampNeg (v_places (Int32.toNatClampNeg x2_1))) ((v_word_2 (Int32.toNatClampNeg (v_places (Int32.toNatClampNeg x2_1)))) ^^^ (v_values (Int32.toNatClampNeg x2_1)))) fun v_word_10 => nm (x2_1 + 1 : Int32) fun x2_11 => fX10_changed_L2 x1 v_places v_values F2_3 x2_11 v_word_10)))))
def fX10_changed (v_places : Nat → Int32) (v_values : Nat → Int32) (v_word : Nat → Int32) (x1 : Int32) : Option (Int32 × (Nat → Int32)) := fX10_changed_L2 x1 v_places v_values FU 0 v_word
set_option maxHeartbeats 4000000 in
set_option maxRecDepth 100000 in
theorem ct_X10_changed (l : Launch) (D : va_G) (cB cI cZ : ClassId) (tw : Nat) (av : Nat → Nat) (a_this : Nat) (v_thrown : Int32) (v_size : Int32) (v_begins : Int32) (v_entries : Int32) (v_length : Int32) (v_pressed : Int32) (v_streamFrames : Int32) (v_zeros : Int32) (v_level : Int32) (v_sum : Int32) (v_tail : Int32) (v_isPlayed : Int32) (v_found : Int32) (v_strange : Int32) (v_innerFails : Int32) (v_outerFails : Int32) (v_mostMarks : Int32) (v_unsure : Int32) (v_may : Int32) (v_mocks : Int32) (v_sumThen : Int32) (v_places : Nat → Int32) (v_values : Nat → Int32) (v_word : Nat → Int32) (x1 : Int32) (res : Int32 × (Nat → Int32)) (h : fX10_changed v_places v_values v_word x1 = some res) : Ctr l yX10_changed cX10_changed 3 (some .int) (rmK 0 0) D (tyL cB cI cZ) tw [.ref a_this, .int x1] (wX10_changed cB cI cZ av a_this v_thrown v_size v_begins v_entries v_length v_pressed v_streamFrames v_zeros v_level v_sum v_tail v_isPlayed v_found v_strange v_innerFails v_outerFails v_mostMarks v_unsure v_may v_mocks v_sumThen v_places v_values v_word) (fun res : Int32 × (Nat → Int32) => some (.int res.1)) (fun res : Int32 × (Nat → Int32) => (wX10_changed cB cI cZ av a_this v_thrown v_size v_begins v_entries v_length v_pressed v_streamFrames v_zeros v_level v_sum v_tail v_isPlayed v_found v_strange v_innerFails v_outerFails v_mostMarks v_unsure v_may v_mocks v_sumThen v_places v_values (res.2))) res := by
  refine ctr_of RX10 (by decide) rfl (Nat.le_of_ble_eq_true rfl) ?_
  intro p e s m below meth c A C hw ls hl
  have hx := C.1
  have hb := C.2.1
  have hl : lv_has ls 3 [(0, .ref a_this), (1, .int x1)] := hl
  unfold fX10_changed at h
  refine lv_iconst (pc := 0) (v := 0) hx hb dX10_changed_0 (by decide) ?_
  refine lv_istore_n (pc := 1) (lv' := [(2, .int 0), (0, .ref a_this), (1, .int x1)]) hx hb dX10_changed_1 rfl hl (by decide) rfl (fun ls hl => ?_)
  have Lih2_3 : ∀ (F : Nat) (x2_1 : Int32) (v_word_2 : Nat → Int32) (ls : Array Slot) (H : Heap) (locs : List Loc), lv_has ls 3 [(2, .int x2_1), (0, .ref a_this), (1, .int x1)] → Wd D A s (wX10_changed cB cI cZ av a_this v_thrown v_size v_begins v_entries v_length v_pressed v_streamFrames v_zeros v_level v_sum v_tail v_isPlayed v_found v_strange v_innerFails v_outerFails v_mostMarks v_unsure v_may v_mocks v_sumThen v_places v_values v_word_2) H locs → fX10_changed_L2 x1 v_places v_values F x2_1 v_word_2 = some res → W p l e (rmK 0 0) s m ([.ref a_this, .int x1] : List Value).toArray below meth c H locs 0 0 (MQ below (QG D (tyL cB cI cZ) A (fun res : Int32 × (Nat → Int32) => some (.int res.1)) (fun res : Int32 × (Nat → Int32) => (wX10_changed cB cI cZ av a_this v_thrown v_size v_begins v_entries v_length v_pressed v_streamFrames v_zeros v_level v_sum v_tail v_isPlayed v_found v_strange v_innerFails v_outerFails v_mostMarks v_unsure v_may v_mocks v_sumThen v_places v_values (res.2))) res) ([.ref a_this, .int x1] : List Value).toArray s 0 0 A) (F0 m 2 ls []) := by
    intro F
    induction F with
    | zero => intro x2_1 v_word_2 ls H locs hl hw h; rw [fX10_changed_L2.eq_1] at h; cases h
    | succ F2_3 ih2_3 =>
      intro x2_1 v_word_2 ls H locs hl hw h
      rw [fX10_changed_L2.eq_2] at h
      refine lv_iload_n (pc := 2) hx hb dX10_changed_2 rfl (lv_at hl 0 rfl) ?_
      refine lv_iload_n (pc := 3) hx hb dX10_changed_3 rfl (lv_at hl 2 rfl) ?_
      refine lv_icmp_ge (pc := 4) (tgt := 42) hx hb dX10_changed_4 (by decide) (fun hc_4 => ?_) (fun hc_4 => ?_)
      · have h := ift hc_4 h
        refine lv_iload_n (pc := 42) hx hb dX10_changed_42 rfl (lv_at hl 2 rfl) ?_
        exact x_iret (pc := 43) (v := (x1, v_word_2)) C (Option.some.inj h) rfl hw dX10_changed_43
      · have h := iff' hc_4 h
        refine lv_aload_n (pc := 7) hx hb dX10_changed_7 rfl (lv_at hl 1 rfl) ?_
        refine gf_X10_45 (pc := 8) C hw 0 rfl rfl dX10_changed_8 ?_
        refine lv_aload_n (pc := 11) hx hb dX10_changed_11 rfl (lv_at hl 1 rfl) ?_
        refine gf_X10_55 (pc := 12) C hw 0 rfl rfl dX10_changed_12 ?_
        refine lv_iload_n (pc := 15) hx hb dX10_changed_15 rfl (lv_at hl 0 rfl) ?_
        obtain ⟨hi_5, h⟩ := og_at h
        refine x_iald (pc := 16) C hw 1 rfl hi_5 dX10_changed_16 ?_
        refine lv_aload_n (pc := 17) hx hb dX10_changed_17 rfl (lv_at hl 1 rfl) ?_
        refine gf_X10_45 (pc := 18) C hw 0 rfl rfl dX10_changed_18 ?_
        refine lv_aload_n (pc := 21) hx hb dX10_changed_21 rfl (lv_at hl 1 rfl) ?_
        refine gf_X10_55 (pc := 22) C hw 0 rfl rfl dX10_changed_22 ?_
        refine lv_iload_n (pc := 25) hx hb dX10_changed_25 rfl (lv_at hl 0 rfl) ?_
        obtain ⟨hi_6, h⟩ := og_at h
        refine x_iald (pc := 26) C hw 1 rfl hi_6 dX10_changed_26 ?_
        obtain ⟨hi_7, h⟩ := og_at h
        refine x_iald (pc := 27) C hw 3 rfl hi_7 dX10_changed_27 ?_
        refine lv_aload_n (pc := 28) hx hb dX10_changed_28 rfl (lv_at hl 1 rfl) ?_
        refine gf_X10_58 (pc := 29) C hw 0 rfl rfl dX10_changed_29 ?_
        refine lv_iload_n (pc := 32) hx hb dX10_changed_32 rfl (lv_at hl 0 rfl) ?_
        obtain ⟨hi_8, h⟩ := og_at h
        refine x_iald (pc := 33) C hw 2 rfl hi_8 dX10_changed_33 ?_
        refine lv_ixor (pc := 34) hx hb dX10_changed_34 ?_
        obtain ⟨hi_9, h⟩ := og_at h
        obtain ⟨v_word_10, ev_word_10⟩ : ∃ y : Nat → Int32, y = upd v_word_2 (Int32.toNatClampNeg (v_places (Int32.toNatClampNeg x2_1))) ((v_word_2 (Int32.toNatClampNeg (v_places (Int32.toNatClampNeg x2_1)))) ^^^ (v_values (Int32.toNatClampNeg x2_1))) := ⟨_, rfl⟩
        have h := nm_at ev_word_10 h
        refine x_iast (pc := 35) (wX10_changed cB cI cZ av a_this v_thrown v_size v_begins v_entries v_length v_pressed v_streamFrames v_zeros v_level v_sum v_tail v_isPlayed v_found v_strange v_innerFails v_outerFails v_mostMarks v_unsure v_may v_mocks v_sumThen v_places v_values v_word_10) C hw 3 rfl hi_9 (by rw [ev_word_10]; rfl) dX10_changed_35 (fun H locs hw => ?_)
        obtain ⟨x2_11, ex2_11⟩ : ∃ y : Int32, y = x2_1 + 1 := ⟨_, rfl⟩
        have h := nm_at ex2_11 h
        refine lv_iinc (pc := 36) (v := x2_11) (lv' := [(2, .int x2_11), (0, .ref a_this), (1, .int x1)]) hx hb dX10_changed_36 hl (k := 0) rfl (by rw [ex2_11]; rfl) (by decide) rfl (fun ls hl => ?_)
        refine lv_goto (pc := 39) (tgt := 2) hx hb dX10_changed_39 (by decide) ?_
        exact ih2_3 x2_11 v_word_10 ls _ _ (lv_sub hl [0, 1, 2] rfl) hw h
  exact Lih2_3 FU 0 v_word ls _ _ (lv_sub hl [0, 1, 2] rfl) hw h
def wX10_findTwo (cB cI cZ : ClassId) (av : Nat → Nat) (a_this : Nat) (v_thrown : Int32) (v_size : Int32) (v_begins : Int32) (v_entries : Int32) (v_length : Int32) (v_pressed : Int32) (v_streamFrames : Int32) (v_zeros : Int32) (v_level : Int32) (v_sum : Int32) (v_tail : Int32) (v_isPlayed : Int32) (v_found : Int32) (v_strange : Int32) (v_innerFails : Int32) (v_outerFails : Int32) (v_mostMarks : Int32) (v_unsure : Int32) (v_may : Int32) (v_mocks : Int32) (v_sumThen : Int32) (v_logs : Nat → Int32) (v_places : Nat → Int32) (v_powers : Nat → Int32) (v_syndromes : Nat → Int32) : va_W := [oX10 a_this av v_thrown v_size v_begins v_entries v_length v_pressed v_streamFrames v_zeros v_level v_sum v_tail v_isPlayed v_found v_strange v_innerFails v_outerFails v_mostMarks v_unsure v_may v_mocks v_sumThen, ((av 4), .inl (cI, 256, .inl v_logs)), ((av 25), .inl (cI, 4, .inl v_places)), ((av 3), .inl (cI, 512, .inl v_powers)), ((av 24), .inl (cI, 4, .inl v_syndromes))]
def fX10_findTwo_L114 (x1 : Int32) (j180_31 : Int32 → (Nat → Int32) → Option (Int32 × (Nat → Int32))) (v_powers : Nat → Int32) (v_logs : Nat → Int32) (r_21 : Int32) (r_27 : Int32) : Nat → Int32 → Int32 → (Nat → Int32) → Option (Int32 × (Nat → Int32))
  | 0, _, _, _ => none
  | F114_36 + 1, x11_33, x10_34, v_places_35 => if x1 ≤ x11_33 then j180_31 x10_34 v_places_35 else ob1 (fX10_power v_powers 1 x1 x11_33) fun r_38 => ob1 (fX10_times v_logs v_powers r_38 r_38) fun r_40 => ob1 (fX10_times v_logs v_powers r_21 r_38) fun r_42 => jk (fun (x10_44 : Int32) (v_places_45 : Nat → Int32) => nm (x11_33 + 1 : Int32) fun x11_47 => fX10_findTwo_L114 x1 j180_31 v_powers v_logs r_21 r_27 F114_36 x11_47 x10_44 v_places_45) fun j174_46 => if ((r_40 ^^^ r_42) ^^^ r_27) = 0 then jk (fun (v_places_49 : Nat → Int32) => nm (x10_34 + 1 : Int32) fun x10_51 => j174_46 x10_51 v_places_49) fun j171_50 => if (2 : Int32) ≤ x10_34 then j171_50 v_places_35 else og (ixb x10_34 4) (nm (upd v_places_35 (Int32.toNatClampNeg x10_34) x11_33) fun v_places_54 => j171_50 v_places_54) else j174_46 x10_34 v_places_35
def fX10_findTwo (v_logs : Nat → Int32) (v_places : Nat → Int32) (v_powers : Nat → Int32) (v_syndromes : Nat → Int32) (x1 : Int32) : Option (Int32 × (Nat → Int32)) := og (ixb 0 4) (nm ((v_syndromes (Int32.toNatClampNeg 0)) : Int32) fun x2_2 => og (ixb 1 4) (nm ((v_syndromes (Int32.toNatClampNeg 1)) : Int32) fun x3_4 => og (ixb 2 4) (nm ((v_syndromes (Int32.toNatClampNeg 2)) : Int32) fun x4_6 => og (ixb 3 4) (nm ((v_syndromes (Int32.toNatClampNeg 3)) : Int32) fun x5_8 => ob1 (fX10_times v_logs v_powers x3_4 x3_4) fun r_9 => ob1 (fX10_times v_logs v_powers x2_2 x4_6) fun r_11 => nm ((r_9 ^^^ r_11) : Int32) fun x6_13 => if x6_13 = 0 then some (0, v_places) else ob1 (fX10_inverse v_logs v_powers x6_13) fun r_15 => ob1 (fX10_times v_logs v_powers x2_2 x5_8) fun r_17 => ob1 (fX10_times v_logs v_powers x3_4 x4_6) fun r_19 => ob1 (fX10_times v_logs v_powers (r_17 ^^^ r_19) r_15) fun r_21 => ob1 (fX10_times v_logs v_powers x3_4 x5_8) fun r_23 => ob1 (fX10_times v_logs v_powers x4_6 x4_6) fun r_25 => ob1 (fX10_times v_logs v_powers (r_23 ^^^ r_25) r_15) fun r_27 => jk (fun (x10_29 : Int32) (v_places_30 : Nat → Int32) => if x10_29 = (2 : Int32) then some (1, v_places_30) else some (0, v_places_30)) fun j180_31 => fX10_findTwo_L114 x1 j180_31 v_powers v_logs r_21 r_27 FU 0 0 v_places))))
set_option maxHeartbeats 4000000 in
set_option maxRecDepth 100000 in
theorem ct_X10_findTwo (l : Launch) (D : va_G) (cB cI cZ : ClassId) (tw : Nat) (av : Nat → Nat) (a_this : Nat) (v_thrown : Int32) (v_size : Int32) (v_begins : Int32) (v_entries : Int32) (v_length : Int32) (v_pressed : Int32) (v_streamFrames : Int32) (v_zeros : Int32) (v_level : Int32) (v_sum : Int32) (v_tail : Int32) (v_isPlayed : Int32) (v_found : Int32) (v_strange : Int32) (v_innerFails : Int32) (v_outerFails : Int32) (v_mostMarks : Int32) (v_unsure : Int32) (v_may : Int32) (v_mocks : Int32) (v_sumThen : Int32) (v_logs : Nat → Int32) (v_places : Nat → Int32) (v_powers : Nat → Int32) (v_syndromes : Nat → Int32) (x1 : Int32) (res : Int32 × (Nat → Int32)) (h : fX10_findTwo v_logs v_places v_powers v_syndromes x1 = some res) : Ctr l yX10_findTwo cX10_findTwo 13 (some .boolean) (rmK 1 23) D (tyL cB cI cZ) tw [.ref a_this, .int x1] (wX10_findTwo cB cI cZ av a_this v_thrown v_size v_begins v_entries v_length v_pressed v_streamFrames v_zeros v_level v_sum v_tail v_isPlayed v_found v_strange v_innerFails v_outerFails v_mostMarks v_unsure v_may v_mocks v_sumThen v_logs v_places v_powers v_syndromes) (fun res : Int32 × (Nat → Int32) => some (.int res.1)) (fun res : Int32 × (Nat → Int32) => (wX10_findTwo cB cI cZ av a_this v_thrown v_size v_begins v_entries v_length v_pressed v_streamFrames v_zeros v_level v_sum v_tail v_isPlayed v_found v_strange v_innerFails v_outerFails v_mostMarks v_unsure v_may v_mocks v_sumThen v_logs (res.2) v_powers v_syndromes)) res := by
  refine ctr_of RX10 (by decide) rfl (Nat.le_of_ble_eq_true rfl) ?_
  intro p e s m below meth c A C hw ls hl
  have hx := C.1
  have hb := C.2.1
  have hl : lv_has ls 13 [(0, .ref a_this), (1, .int x1)] := hl
  unfold fX10_findTwo at h
  refine lv_aload_n (pc := 0) hx hb dX10_findTwo_0 rfl (lv_at hl 0 rfl) ?_
  refine gf_X10_52 (pc := 1) C hw 0 rfl rfl dX10_findTwo_1 ?_
  refine lv_iconst (pc := 4) (v := 0) hx hb dX10_findTwo_4 (by decide) ?_
  obtain ⟨hi_1, h⟩ := og_at h
  refine x_iald (pc := 5) C hw 4 rfl hi_1 dX10_findTwo_5 ?_
  refine lv_topi (pc := 6) (fun x2_2 ex2_2 => ?_)
  have h := nm_at ex2_2 h
  refine lv_istore_n (pc := 6) (lv' := [(2, .int x2_2), (0, .ref a_this), (1, .int x1)]) hx hb dX10_findTwo_6 rfl hl (by decide) rfl (fun ls hl => ?_)
  refine lv_aload_n (pc := 7) hx hb dX10_findTwo_7 rfl (lv_at hl 1 rfl) ?_
  refine gf_X10_52 (pc := 8) C hw 0 rfl rfl dX10_findTwo_8 ?_
  refine lv_iconst (pc := 11) (v := 1) hx hb dX10_findTwo_11 (by decide) ?_
  obtain ⟨hi_3, h⟩ := og_at h
  refine x_iald (pc := 12) C hw 4 rfl hi_3 dX10_findTwo_12 ?_
  refine lv_topi (pc := 13) (fun x3_4 ex3_4 => ?_)
  have h := nm_at ex3_4 h
  refine lv_istore_n (pc := 13) (lv' := [(3, .int x3_4), (2, .int x2_2), (0, .ref a_this), (1, .int x1)]) hx hb dX10_findTwo_13 rfl hl (by decide) rfl (fun ls hl => ?_)
  refine lv_aload_n (pc := 14) hx hb dX10_findTwo_14 rfl (lv_at hl 2 rfl) ?_
  refine gf_X10_52 (pc := 15) C hw 0 rfl rfl dX10_findTwo_15 ?_
  refine lv_iconst (pc := 18) (v := 2) hx hb dX10_findTwo_18 (by decide) ?_
  obtain ⟨hi_5, h⟩ := og_at h
  refine x_iald (pc := 19) C hw 4 rfl hi_5 dX10_findTwo_19 ?_
  refine lv_topi (pc := 20) (fun x4_6 ex4_6 => ?_)
  have h := nm_at ex4_6 h
  refine lv_istore (pc := 20) (lv' := [(4, .int x4_6), (3, .int x3_4), (2, .int x2_2), (0, .ref a_this), (1, .int x1)]) hx hb dX10_findTwo_20 hl (by decide) rfl (fun ls hl => ?_)
  refine lv_aload_n (pc := 22) hx hb dX10_findTwo_22 rfl (lv_at hl 3 rfl) ?_
  refine gf_X10_52 (pc := 23) C hw 0 rfl rfl dX10_findTwo_23 ?_
  refine lv_iconst (pc := 26) (v := 3) hx hb dX10_findTwo_26 (by decide) ?_
  obtain ⟨hi_7, h⟩ := og_at h
  refine x_iald (pc := 27) C hw 4 rfl hi_7 dX10_findTwo_27 ?_
  refine lv_topi (pc := 28) (fun x5_8 ex5_8 => ?_)
  have h := nm_at ex5_8 h
  refine lv_istore (pc := 28) (lv' := [(5, .int x5_8), (4, .int x4_6), (3, .int x3_4), (2, .int x2_2), (0, .ref a_this), (1, .int x1)]) hx hb dX10_findTwo_28 hl (by decide) rfl (fun ls hl => ?_)
  refine lv_aload_n (pc := 30) hx hb dX10_findTwo_30 rfl (lv_at hl 4 rfl) ?_
  refine lv_iload_n (pc := 31) hx hb dX10_findTwo_31 rfl (lv_at hl 2 rfl) ?_
  refine lv_iload_n (pc := 32) hx hb dX10_findTwo_32 rfl (lv_at hl 2 rfl) ?_
  obtain ⟨r_9, hq_10, h⟩ := ob1_at h
  refine x_callV (pc := 33) (rest := []) (stk := [.int r_9]) (wX10_findTwo cB cI cZ av a_this v_thrown v_size v_begins v_entries v_length v_pressed v_streamFrames v_zeros v_level v_sum v_tail v_isPlayed v_found v_strange v_innerFails v_outerFails v_mostMarks v_unsure v_may v_mocks v_sumThen v_logs v_places v_powers v_syndromes) C hw (ct_X10_times l D cB cI cZ tw av a_this v_thrown v_size v_begins v_entries v_length v_pressed v_streamFrames v_zeros v_level v_sum v_tail v_isPlayed v_found v_strange v_innerFails v_outerFails v_mostMarks v_unsure v_may v_mocks v_sumThen v_logs v_powers x3_4 x3_4 r_9 hq_10) cal_X10_times tw_1244 (q0 := 0) rfl rfl [0, 1, 3] [2, 4] 5 [((av 25), .inl (cI, 4, .inl v_places)), ((av 24), .inl (cI, 4, .inl v_syndromes))] rfl rfl rfl rfl rfl rfl rfl rfl rfl rfl rfl (Nat.le_of_ble_eq_true rfl) hl.1 ⟨Nat.le_of_ble_eq_true rfl, Nat.le_of_ble_eq_true rfl⟩ ⟨Nat.zero_le _, Nat.zero_le _⟩ dX10_findTwo_33 (fun H locs hw => ?_)
  refine lv_aload_n (pc := 36) hx hb dX10_findTwo_36 rfl (lv_at hl 4 rfl) ?_
  refine lv_iload_n (pc := 37) hx hb dX10_findTwo_37 rfl (lv_at hl 3 rfl) ?_
  refine lv_iload (pc := 38) hx hb dX10_findTwo_38 (lv_at hl 1 rfl) ?_
  obtain ⟨r_11, hq_12, h⟩ := ob1_at h
  refine x_callV (pc := 40) (rest := [.int r_9]) (stk := [.int r_11, .int r_9]) (wX10_findTwo cB cI cZ av a_this v_thrown v_size v_begins v_entries v_length v_pressed v_streamFrames v_zeros v_level v_sum v_tail v_isPlayed v_found v_strange v_innerFails v_outerFails v_mostMarks v_unsure v_may v_mocks v_sumThen v_logs v_places v_powers v_syndromes) C hw (ct_X10_times l D cB cI cZ tw av a_this v_thrown v_size v_begins v_entries v_length v_pressed v_streamFrames v_zeros v_level v_sum v_tail v_isPlayed v_found v_strange v_innerFails v_outerFails v_mostMarks v_unsure v_may v_mocks v_sumThen v_logs v_powers x2_2 x4_6 r_11 hq_12) cal_X10_times tw_1244 (q0 := 0) rfl rfl [0, 1, 3] [2, 4] 5 [((av 25), .inl (cI, 4, .inl v_places)), ((av 24), .inl (cI, 4, .inl v_syndromes))] rfl rfl rfl rfl rfl rfl rfl rfl rfl rfl rfl (Nat.le_of_ble_eq_true rfl) hl.1 ⟨Nat.le_of_ble_eq_true rfl, Nat.le_of_ble_eq_true rfl⟩ ⟨Nat.zero_le _, Nat.zero_le _⟩ dX10_findTwo_40 (fun H locs hw => ?_)
  refine lv_ixor (pc := 43) hx hb dX10_findTwo_43 ?_
  refine lv_topi (pc := 44) (fun x6_13 ex6_13 => ?_)
  have h := nm_at ex6_13 h
  refine lv_istore (pc := 44) (lv' := [(6, .int x6_13), (5, .int x5_8), (4, .int x4_6), (3, .int x3_4), (2, .int x2_2), (0, .ref a_this), (1, .int x1)]) hx hb dX10_findTwo_44 hl (by decide) rfl (fun ls hl => ?_)
  refine lv_iload (pc := 46) hx hb dX10_findTwo_46 (lv_at hl 0 rfl) ?_
  refine lv_if_ne (pc := 48) (tgt := 53) hx hb dX10_findTwo_48 (by decide) (fun hc_14 => ?_) (fun hc_14 => ?_)
  · have h := iff' hc_14 h
    refine lv_aload_n (pc := 53) hx hb dX10_findTwo_53 rfl (lv_at hl 5 rfl) ?_
    refine lv_iload (pc := 54) hx hb dX10_findTwo_54 (lv_at hl 0 rfl) ?_
    obtain ⟨r_15, hq_16, h⟩ := ob1_at h
    refine x_callV (pc := 56) (rest := []) (stk := [.int r_15]) (wX10_findTwo cB cI cZ av a_this v_thrown v_size v_begins v_entries v_length v_pressed v_streamFrames v_zeros v_level v_sum v_tail v_isPlayed v_found v_strange v_innerFails v_outerFails v_mostMarks v_unsure v_may v_mocks v_sumThen v_logs v_places v_powers v_syndromes) C hw (ct_X10_inverse l D cB cI cZ tw av a_this v_thrown v_size v_begins v_entries v_length v_pressed v_streamFrames v_zeros v_level v_sum v_tail v_isPlayed v_found v_strange v_innerFails v_outerFails v_mostMarks v_unsure v_may v_mocks v_sumThen v_logs v_powers x6_13 r_15 hq_16) cal_X10_inverse tw_1256 (q0 := 0) rfl rfl [0, 1, 3] [2, 4] 5 [((av 25), .inl (cI, 4, .inl v_places)), ((av 24), .inl (cI, 4, .inl v_syndromes))] rfl rfl rfl rfl rfl rfl rfl rfl rfl rfl rfl (Nat.le_of_ble_eq_true rfl) hl.1 ⟨Nat.le_of_ble_eq_true rfl, Nat.le_of_ble_eq_true rfl⟩ ⟨Nat.zero_le _, Nat.zero_le _⟩ dX10_findTwo_56 (fun H locs hw => ?_)
    refine lv_istore (pc := 59) (lv' := [(7, .int r_15), (6, .int x6_13), (5, .int x5_8), (4, .int x4_6), (3, .int x3_4), (2, .int x2_2), (0, .ref a_this), (1, .int x1)]) hx hb dX10_findTwo_59 hl (by decide) rfl (fun ls hl => ?_)
    refine lv_aload_n (pc := 61) hx hb dX10_findTwo_61 rfl (lv_at hl 6 rfl) ?_
    refine lv_aload_n (pc := 62) hx hb dX10_findTwo_62 rfl (lv_at hl 6 rfl) ?_
    refine lv_iload_n (pc := 63) hx hb dX10_findTwo_63 rfl (lv_at hl 5 rfl) ?_
    refine lv_iload (pc := 64) hx hb dX10_findTwo_64 (lv_at hl 2 rfl) ?_
    obtain ⟨r_17, hq_18, h⟩ := ob1_at h
    refine x_callV (pc := 66) (rest := [.ref a_this]) (stk := [.int r_17, .ref a_this]) (wX10_findTwo cB cI cZ av a_this v_thrown v_size v_begins v_entries v_length v_pressed v_streamFrames v_zeros v_level v_sum v_tail v_isPlayed v_found v_strange v_innerFails v_outerFails v_mostMarks v_unsure v_may v_mocks v_sumThen v_logs v_places v_powers v_syndromes) C hw (ct_X10_times l D cB cI cZ tw av a_this v_thrown v_size v_begins v_entries v_length v_pressed v_streamFrames v_zeros v_level v_sum v_tail v_isPlayed v_found v_strange v_innerFails v_outerFails v_mostMarks v_unsure v_may v_mocks v_sumThen v_logs v_powers x2_2 x5_8 r_17 hq_18) cal_X10_times tw_1244 (q0 := 0) rfl rfl [0, 1, 3] [2, 4] 5 [((av 25), .inl (cI, 4, .inl v_places)), ((av 24), .inl (cI, 4, .inl v_syndromes))] rfl rfl rfl rfl rfl rfl rfl rfl rfl rfl rfl (Nat.le_of_ble_eq_true rfl) hl.1 ⟨Nat.le_of_ble_eq_true rfl, Nat.le_of_ble_eq_true rfl⟩ ⟨Nat.zero_le _, Nat.zero_le _⟩ dX10_findTwo_66 (fun H locs hw => ?_)
    refine lv_aload_n (pc := 69) hx hb dX10_findTwo_69 rfl (lv_at hl 6 rfl) ?_
    refine lv_iload_n (pc := 70) hx hb dX10_findTwo_70 rfl (lv_at hl 4 rfl) ?_
    refine lv_iload (pc := 71) hx hb dX10_findTwo_71 (lv_at hl 3 rfl) ?_
    obtain ⟨r_19, hq_20, h⟩ := ob1_at h
    refine x_callV (pc := 73) (rest := [.int r_17, .ref a_this]) (stk := [.int r_19, .int r_17, .ref a_this]) (wX10_findTwo cB cI cZ av a_this v_thrown v_size v_begins v_entries v_length v_pressed v_streamFrames v_zeros v_level v_sum v_tail v_isPlayed v_found v_strange v_innerFails v_outerFails v_mostMarks v_unsure v_may v_mocks v_sumThen v_logs v_places v_powers v_syndromes) C hw (ct_X10_times l D cB cI cZ tw av a_this v_thrown v_size v_begins v_entries v_length v_pressed v_streamFrames v_zeros v_level v_sum v_tail v_isPlayed v_found v_strange v_innerFails v_outerFails v_mostMarks v_unsure v_may v_mocks v_sumThen v_logs v_powers x3_4 x4_6 r_19 hq_20) cal_X10_times tw_1244 (q0 := 0) rfl rfl [0, 1, 3] [2, 4] 5 [((av 25), .inl (cI, 4, .inl v_places)), ((av 24), .inl (cI, 4, .inl v_syndromes))] rfl rfl rfl rfl rfl rfl rfl rfl rfl rfl rfl (Nat.le_of_ble_eq_true rfl) hl.1 ⟨Nat.le_of_ble_eq_true rfl, Nat.le_of_ble_eq_true rfl⟩ ⟨Nat.zero_le _, Nat.zero_le _⟩ dX10_findTwo_73 (fun H locs hw => ?_)
    refine lv_ixor (pc := 76) hx hb dX10_findTwo_76 ?_
    refine lv_iload (pc := 77) hx hb dX10_findTwo_77 (lv_at hl 0 rfl) ?_
    obtain ⟨r_21, hq_22, h⟩ := ob1_at h
    refine x_callV (pc := 79) (rest := []) (stk := [.int r_21]) (wX10_findTwo cB cI cZ av a_this v_thrown v_size v_begins v_entries v_length v_pressed v_streamFrames v_zeros v_level v_sum v_tail v_isPlayed v_found v_strange v_innerFails v_outerFails v_mostMarks v_unsure v_may v_mocks v_sumThen v_logs v_places v_powers v_syndromes) C hw (ct_X10_times l D cB cI cZ tw av a_this v_thrown v_size v_begins v_entries v_length v_pressed v_streamFrames v_zeros v_level v_sum v_tail v_isPlayed v_found v_strange v_innerFails v_outerFails v_mostMarks v_unsure v_may v_mocks v_sumThen v_logs v_powers (r_17 ^^^ r_19) r_15 r_21 hq_22) cal_X10_times tw_1244 (q0 := 0) rfl rfl [0, 1, 3] [2, 4] 5 [((av 25), .inl (cI, 4, .inl v_places)), ((av 24), .inl (cI, 4, .inl v_syndromes))] rfl rfl rfl rfl rfl rfl rfl rfl rfl rfl rfl (Nat.le_of_ble_eq_true rfl) hl.1 ⟨Nat.le_of_ble_eq_true rfl, Nat.le_of_ble_eq_true rfl⟩ ⟨Nat.zero_le _, Nat.zero_le _⟩ dX10_findTwo_79 (fun H locs hw => ?_)
    refine lv_istore (pc := 82) (lv' := [(8, .int r_21), (7, .int r_15), (6, .int x6_13), (5, .int x5_8), (4, .int x4_6), (3, .int x3_4), (2, .int x2_2), (0, .ref a_this), (1, .int x1)]) hx hb dX10_findTwo_82 hl (by decide) rfl (fun ls hl => ?_)
    refine lv_aload_n (pc := 84) hx hb dX10_findTwo_84 rfl (lv_at hl 7 rfl) ?_
    refine lv_aload_n (pc := 85) hx hb dX10_findTwo_85 rfl (lv_at hl 7 rfl) ?_
    refine lv_iload_n (pc := 86) hx hb dX10_findTwo_86 rfl (lv_at hl 5 rfl) ?_
    refine lv_iload (pc := 87) hx hb dX10_findTwo_87 (lv_at hl 3 rfl) ?_
    obtain ⟨r_23, hq_24, h⟩ := ob1_at h
    refine x_callV (pc := 89) (rest := [.ref a_this]) (stk := [.int r_23, .ref a_this]) (wX10_findTwo cB cI cZ av a_this v_thrown v_size v_begins v_entries v_length v_pressed v_streamFrames v_zeros v_level v_sum v_tail v_isPlayed v_found v_strange v_innerFails v_outerFails v_mostMarks v_unsure v_may v_mocks v_sumThen v_logs v_places v_powers v_syndromes) C hw (ct_X10_times l D cB cI cZ tw av a_this v_thrown v_size v_begins v_entries v_length v_pressed v_streamFrames v_zeros v_level v_sum v_tail v_isPlayed v_found v_strange v_innerFails v_outerFails v_mostMarks v_unsure v_may v_mocks v_sumThen v_logs v_powers x3_4 x5_8 r_23 hq_24) cal_X10_times tw_1244 (q0 := 0) rfl rfl [0, 1, 3] [2, 4] 5 [((av 25), .inl (cI, 4, .inl v_places)), ((av 24), .inl (cI, 4, .inl v_syndromes))] rfl rfl rfl rfl rfl rfl rfl rfl rfl rfl rfl (Nat.le_of_ble_eq_true rfl) hl.1 ⟨Nat.le_of_ble_eq_true rfl, Nat.le_of_ble_eq_true rfl⟩ ⟨Nat.zero_le _, Nat.zero_le _⟩ dX10_findTwo_89 (fun H locs hw => ?_)
    refine lv_aload_n (pc := 92) hx hb dX10_findTwo_92 rfl (lv_at hl 7 rfl) ?_
    refine lv_iload (pc := 93) hx hb dX10_findTwo_93 (lv_at hl 4 rfl) ?_
    refine lv_iload (pc := 95) hx hb dX10_findTwo_95 (lv_at hl 4 rfl) ?_
    obtain ⟨r_25, hq_26, h⟩ := ob1_at h
    refine x_callV (pc := 97) (rest := [.int r_23, .ref a_this]) (stk := [.int r_25, .int r_23, .ref a_this]) (wX10_findTwo cB cI cZ av a_this v_thrown v_size v_begins v_entries v_length v_pressed v_streamFrames v_zeros v_level v_sum v_tail v_isPlayed v_found v_strange v_innerFails v_outerFails v_mostMarks v_unsure v_may v_mocks v_sumThen v_logs v_places v_powers v_syndromes) C hw (ct_X10_times l D cB cI cZ tw av a_this v_thrown v_size v_begins v_entries v_length v_pressed v_streamFrames v_zeros v_level v_sum v_tail v_isPlayed v_found v_strange v_innerFails v_outerFails v_mostMarks v_unsure v_may v_mocks v_sumThen v_logs v_powers x4_6 x4_6 r_25 hq_26) cal_X10_times tw_1244 (q0 := 0) rfl rfl [0, 1, 3] [2, 4] 5 [((av 25), .inl (cI, 4, .inl v_places)), ((av 24), .inl (cI, 4, .inl v_syndromes))] rfl rfl rfl rfl rfl rfl rfl rfl rfl rfl rfl (Nat.le_of_ble_eq_true rfl) hl.1 ⟨Nat.le_of_ble_eq_true rfl, Nat.le_of_ble_eq_true rfl⟩ ⟨Nat.zero_le _, Nat.zero_le _⟩ dX10_findTwo_97 (fun H locs hw => ?_)
    refine lv_ixor (pc := 100) hx hb dX10_findTwo_100 ?_
    refine lv_iload (pc := 101) hx hb dX10_findTwo_101 (lv_at hl 1 rfl) ?_
    obtain ⟨r_27, hq_28, h⟩ := ob1_at h
    refine x_callV (pc := 103) (rest := []) (stk := [.int r_27]) (wX10_findTwo cB cI cZ av a_this v_thrown v_size v_begins v_entries v_length v_pressed v_streamFrames v_zeros v_level v_sum v_tail v_isPlayed v_found v_strange v_innerFails v_outerFails v_mostMarks v_unsure v_may v_mocks v_sumThen v_logs v_places v_powers v_syndromes) C hw (ct_X10_times l D cB cI cZ tw av a_this v_thrown v_size v_begins v_entries v_length v_pressed v_streamFrames v_zeros v_level v_sum v_tail v_isPlayed v_found v_strange v_innerFails v_outerFails v_mostMarks v_unsure v_may v_mocks v_sumThen v_logs v_powers (r_23 ^^^ r_25) r_15 r_27 hq_28) cal_X10_times tw_1244 (q0 := 0) rfl rfl [0, 1, 3] [2, 4] 5 [((av 25), .inl (cI, 4, .inl v_places)), ((av 24), .inl (cI, 4, .inl v_syndromes))] rfl rfl rfl rfl rfl rfl rfl rfl rfl rfl rfl (Nat.le_of_ble_eq_true rfl) hl.1 ⟨Nat.le_of_ble_eq_true rfl, Nat.le_of_ble_eq_true rfl⟩ ⟨Nat.zero_le _, Nat.zero_le _⟩ dX10_findTwo_103 (fun H locs hw => ?_)
    refine lv_istore (pc := 106) (lv' := [(9, .int r_27), (8, .int r_21), (7, .int r_15), (6, .int x6_13), (5, .int x5_8), (4, .int x4_6), (3, .int x3_4), (2, .int x2_2), (0, .ref a_this), (1, .int x1)]) hx hb dX10_findTwo_106 hl (by decide) rfl (fun ls hl => ?_)
    refine lv_iconst (pc := 108) (v := 0) hx hb dX10_findTwo_108 (by decide) ?_
    refine lv_istore (pc := 109) (lv' := [(10, .int 0), (9, .int r_27), (8, .int r_21), (7, .int r_15), (6, .int x6_13), (5, .int x5_8), (4, .int x4_6), (3, .int x3_4), (2, .int x2_2), (0, .ref a_this), (1, .int x1)]) hx hb dX10_findTwo_109 hl (by decide) rfl (fun ls hl => ?_)
    refine lv_iconst (pc := 111) (v := 0) hx hb dX10_findTwo_111 (by decide) ?_
    refine lv_istore (pc := 112) (lv' := [(11, .int 0), (10, .int 0), (9, .int r_27), (8, .int r_21), (7, .int r_15), (6, .int x6_13), (5, .int x5_8), (4, .int x4_6), (3, .int x3_4), (2, .int x2_2), (0, .ref a_this), (1, .int x1)]) hx hb dX10_findTwo_112 hl (by decide) rfl (fun ls hl => ?_)
    obtain ⟨j180_31, ej180_31, h⟩ := jk_at h
    have J180_31 : ∀ (x10_29 : Int32) (v_places_30 : Nat → Int32) (ls : Array Slot) (H : Heap) (locs : List Loc), lv_has ls 13 [(10, .int x10_29)] → Wd D A s (wX10_findTwo cB cI cZ av a_this v_thrown v_size v_begins v_entries v_length v_pressed v_streamFrames v_zeros v_level v_sum v_tail v_isPlayed v_found v_strange v_innerFails v_outerFails v_mostMarks v_unsure v_may v_mocks v_sumThen v_logs v_places_30 v_powers v_syndromes) H locs → j180_31 x10_29 v_places_30 = some res → W p l e (rmK 1 23) s m ([.ref a_this, .int x1] : List Value).toArray below meth c H locs 0 0 (MQ below (QG D (tyL cB cI cZ) A (fun res : Int32 × (Nat → Int32) => some (.int res.1)) (fun res : Int32 × (Nat → Int32) => (wX10_findTwo cB cI cZ av a_this v_thrown v_size v_begins v_entries v_length v_pressed v_streamFrames v_zeros v_level v_sum v_tail v_isPlayed v_found v_strange v_innerFails v_outerFails v_mostMarks v_unsure v_may v_mocks v_sumThen v_logs (res.2) v_powers v_syndromes)) res) ([.ref a_this, .int x1] : List Value).toArray s 0 0 A) (F0 m 180 ls []) := by
      intro x10_29 v_places_30 ls H locs hl hw h
      have h := k2_at ej180_31 h
      refine lv_iload (pc := 180) hx hb dX10_findTwo_180 (lv_at hl 0 rfl) ?_
      refine lv_iconst (pc := 182) (v := 2) hx hb dX10_findTwo_182 (by decide) ?_
      refine lv_icmp_ne (pc := 183) (tgt := 190) hx hb dX10_findTwo_183 (by decide) (fun hc_32 => ?_) (fun hc_32 => ?_)
      · have h := iff' hc_32 h
        refine lv_iconst (pc := 190) (v := 0) hx hb dX10_findTwo_190 (by decide) ?_
        exact x_zret (pc := 191) (v := (0, v_places_30)) C (Option.some.inj h) rfl rfl hw dX10_findTwo_191
      · have h := ift hc_32 h
        refine lv_iconst (pc := 186) (v := 1) hx hb dX10_findTwo_186 (by decide) ?_
        refine lv_goto (pc := 187) (tgt := 191) hx hb dX10_findTwo_187 (by decide) ?_
        exact x_zret (pc := 191) (v := (1, v_places_30)) C (Option.some.inj h) rfl rfl hw dX10_findTwo_191
    have Lih114_36 : ∀ (F : Nat) (x11_33 : Int32) (x10_34 : Int32) (v_places_35 : Nat → Int32) (ls : Array Slot) (H : Heap) (locs : List Loc), lv_has ls 13 [(11, .int x11_33), (10, .int x10_34), (9, .int r_27), (8, .int r_21), (0, .ref a_this), (1, .int x1)] → Wd D A s (wX10_findTwo cB cI cZ av a_this v_thrown v_size v_begins v_entries v_length v_pressed v_streamFrames v_zeros v_level v_sum v_tail v_isPlayed v_found v_strange v_innerFails v_outerFails v_mostMarks v_unsure v_may v_mocks v_sumThen v_logs v_places_35 v_powers v_syndromes) H locs → fX10_findTwo_L114 x1 j180_31 v_powers v_logs r_21 r_27 F x11_33 x10_34 v_places_35 = some res → W p l e (rmK 1 23) s m ([.ref a_this, .int x1] : List Value).toArray below meth c H locs 0 0 (MQ below (QG D (tyL cB cI cZ) A (fun res : Int32 × (Nat → Int32) => some (.int res.1)) (fun res : Int32 × (Nat → Int32) => (wX10_findTwo cB cI cZ av a_this v_thrown v_size v_begins v_entries v_length v_pressed v_streamFrames v_zeros v_level v_sum v_tail v_isPlayed v_found v_strange v_innerFails v_outerFails v_mostMarks v_unsure v_may v_mocks v_sumThen v_logs (res.2) v_powers v_syndromes)) res) ([.ref a_this, .int x1] : List Value).toArray s 0 0 A) (F0 m 114 ls []) := by
      intro F
      induction F with
      | zero => intro x11_33 x10_34 v_places_35 ls H locs hl hw h; rw [fX10_findTwo_L114.eq_1] at h; cases h
      | succ F114_36 ih114_36 =>
        intro x11_33 x10_34 v_places_35 ls H locs hl hw h
        rw [fX10_findTwo_L114.eq_2] at h
        refine lv_iload (pc := 114) hx hb dX10_findTwo_114 (lv_at hl 0 rfl) ?_
        refine lv_iload_n (pc := 116) hx hb dX10_findTwo_116 rfl (lv_at hl 5 rfl) ?_
        refine lv_icmp_ge (pc := 117) (tgt := 180) hx hb dX10_findTwo_117 (by decide) (fun hc_37 => ?_) (fun hc_37 => ?_)
        · have h := ift hc_37 h
          exact J180_31 x10_34 v_places_35 ls _ _ (lv_sub hl [1] rfl) hw h
        · have h := iff' hc_37 h
          refine lv_aload_n (pc := 120) hx hb dX10_findTwo_120 rfl (lv_at hl 4 rfl) ?_
          refine lv_iconst (pc := 121) (v := 1) hx hb dX10_findTwo_121 (by decide) ?_
          refine lv_iload_n (pc := 122) hx hb dX10_findTwo_122 rfl (lv_at hl 5 rfl) ?_
          refine lv_iload (pc := 123) hx hb dX10_findTwo_123 (lv_at hl 0 rfl) ?_
          obtain ⟨r_38, hq_39, h⟩ := ob1_at h
          refine x_callV (pc := 125) (rest := []) (stk := [.int r_38]) (wX10_findTwo cB cI cZ av a_this v_thrown v_size v_begins v_entries v_length v_pressed v_streamFrames v_zeros v_level v_sum v_tail v_isPlayed v_found v_strange v_innerFails v_outerFails v_mostMarks v_unsure v_may v_mocks v_sumThen v_logs v_places_35 v_powers v_syndromes) C hw (ct_X10_power l D cB cI cZ tw av a_this v_thrown v_size v_begins v_entries v_length v_pressed v_streamFrames v_zeros v_level v_sum v_tail v_isPlayed v_found v_strange v_innerFails v_outerFails v_mostMarks v_unsure v_may v_mocks v_sumThen v_powers 1 x1 x11_33 r_38 hq_39) cal_X10_power tw_1240 (q0 := 0) rfl rfl [0, 3] [1, 2, 4] 5 [((av 4), .inl (cI, 256, .inl v_logs)), ((av 25), .inl (cI, 4, .inl v_places_35)), ((av 24), .inl (cI, 4, .inl v_syndromes))] rfl rfl rfl rfl rfl rfl rfl rfl rfl rfl rfl (Nat.le_of_ble_eq_true rfl) hl.1 ⟨Nat.le_of_ble_eq_true rfl, Nat.le_of_ble_eq_true rfl⟩ ⟨Nat.zero_le _, Nat.zero_le _⟩ dX10_findTwo_125 (fun H locs hw => ?_)
          refine lv_istore (pc := 128) (lv' := [(12, .int r_38), (11, .int x11_33), (10, .int x10_34), (9, .int r_27), (8, .int r_21), (0, .ref a_this), (1, .int x1)]) hx hb dX10_findTwo_128 hl (by decide) rfl (fun ls hl => ?_)
          refine lv_aload_n (pc := 130) hx hb dX10_findTwo_130 rfl (lv_at hl 5 rfl) ?_
          refine lv_iload (pc := 131) hx hb dX10_findTwo_131 (lv_at hl 0 rfl) ?_
          refine lv_iload (pc := 133) hx hb dX10_findTwo_133 (lv_at hl 0 rfl) ?_
          obtain ⟨r_40, hq_41, h⟩ := ob1_at h
          refine x_callV (pc := 135) (rest := []) (stk := [.int r_40]) (wX10_findTwo cB cI cZ av a_this v_thrown v_size v_begins v_entries v_length v_pressed v_streamFrames v_zeros v_level v_sum v_tail v_isPlayed v_found v_strange v_innerFails v_outerFails v_mostMarks v_unsure v_may v_mocks v_sumThen v_logs v_places_35 v_powers v_syndromes) C hw (ct_X10_times l D cB cI cZ tw av a_this v_thrown v_size v_begins v_entries v_length v_pressed v_streamFrames v_zeros v_level v_sum v_tail v_isPlayed v_found v_strange v_innerFails v_outerFails v_mostMarks v_unsure v_may v_mocks v_sumThen v_logs v_powers r_38 r_38 r_40 hq_41) cal_X10_times tw_1244 (q0 := 0) rfl rfl [0, 1, 3] [2, 4] 5 [((av 25), .inl (cI, 4, .inl v_places_35)), ((av 24), .inl (cI, 4, .inl v_syndromes))] rfl rfl rfl rfl rfl rfl rfl rfl rfl rfl rfl (Nat.le_of_ble_eq_true rfl) hl.1 ⟨Nat.le_of_ble_eq_true rfl, Nat.le_of_ble_eq_true rfl⟩ ⟨Nat.zero_le _, Nat.zero_le _⟩ dX10_findTwo_135 (fun H locs hw => ?_)
          refine lv_aload_n (pc := 138) hx hb dX10_findTwo_138 rfl (lv_at hl 5 rfl) ?_
          refine lv_iload (pc := 139) hx hb dX10_findTwo_139 (lv_at hl 4 rfl) ?_
          refine lv_iload (pc := 141) hx hb dX10_findTwo_141 (lv_at hl 0 rfl) ?_
          obtain ⟨r_42, hq_43, h⟩ := ob1_at h
          refine x_callV (pc := 143) (rest := [.int r_40]) (stk := [.int r_42, .int r_40]) (wX10_findTwo cB cI cZ av a_this v_thrown v_size v_begins v_entries v_length v_pressed v_streamFrames v_zeros v_level v_sum v_tail v_isPlayed v_found v_strange v_innerFails v_outerFails v_mostMarks v_unsure v_may v_mocks v_sumThen v_logs v_places_35 v_powers v_syndromes) C hw (ct_X10_times l D cB cI cZ tw av a_this v_thrown v_size v_begins v_entries v_length v_pressed v_streamFrames v_zeros v_level v_sum v_tail v_isPlayed v_found v_strange v_innerFails v_outerFails v_mostMarks v_unsure v_may v_mocks v_sumThen v_logs v_powers r_21 r_38 r_42 hq_43) cal_X10_times tw_1244 (q0 := 0) rfl rfl [0, 1, 3] [2, 4] 5 [((av 25), .inl (cI, 4, .inl v_places_35)), ((av 24), .inl (cI, 4, .inl v_syndromes))] rfl rfl rfl rfl rfl rfl rfl rfl rfl rfl rfl (Nat.le_of_ble_eq_true rfl) hl.1 ⟨Nat.le_of_ble_eq_true rfl, Nat.le_of_ble_eq_true rfl⟩ ⟨Nat.zero_le _, Nat.zero_le _⟩ dX10_findTwo_143 (fun H locs hw => ?_)
          refine lv_ixor (pc := 146) hx hb dX10_findTwo_146 ?_
          refine lv_iload (pc := 147) hx hb dX10_findTwo_147 (lv_at hl 3 rfl) ?_
          refine lv_ixor (pc := 149) hx hb dX10_findTwo_149 ?_
          obtain ⟨j174_46, ej174_46, h⟩ := jk_at h
          have J174_46 : ∀ (x10_44 : Int32) (v_places_45 : Nat → Int32) (ls : Array Slot) (H : Heap) (locs : List Loc), lv_has ls 13 [(11, .int x11_33), (10, .int x10_44), (9, .int r_27), (8, .int r_21), (0, .ref a_this), (1, .int x1)] → Wd D A s (wX10_findTwo cB cI cZ av a_this v_thrown v_size v_begins v_entries v_length v_pressed v_streamFrames v_zeros v_level v_sum v_tail v_isPlayed v_found v_strange v_innerFails v_outerFails v_mostMarks v_unsure v_may v_mocks v_sumThen v_logs v_places_45 v_powers v_syndromes) H locs → j174_46 x10_44 v_places_45 = some res → W p l e (rmK 1 23) s m ([.ref a_this, .int x1] : List Value).toArray below meth c H locs 0 0 (MQ below (QG D (tyL cB cI cZ) A (fun res : Int32 × (Nat → Int32) => some (.int res.1)) (fun res : Int32 × (Nat → Int32) => (wX10_findTwo cB cI cZ av a_this v_thrown v_size v_begins v_entries v_length v_pressed v_streamFrames v_zeros v_level v_sum v_tail v_isPlayed v_found v_strange v_innerFails v_outerFails v_mostMarks v_unsure v_may v_mocks v_sumThen v_logs (res.2) v_powers v_syndromes)) res) ([.ref a_this, .int x1] : List Value).toArray s 0 0 A) (F0 m 174 ls []) := by
            intro x10_44 v_places_45 ls H locs hl hw h
            have h := k2_at ej174_46 h
            obtain ⟨x11_47, ex11_47⟩ : ∃ y : Int32, y = x11_33 + 1 := ⟨_, rfl⟩
            have h := nm_at ex11_47 h
            refine lv_iinc (pc := 174) (v := x11_47) (lv' := [(11, .int x11_47), (10, .int x10_44), (9, .int r_27), (8, .int r_21), (0, .ref a_this), (1, .int x1)]) hx hb dX10_findTwo_174 hl (k := 0) rfl (by rw [ex11_47]; rfl) (by decide) rfl (fun ls hl => ?_)
            refine lv_goto (pc := 177) (tgt := 114) hx hb dX10_findTwo_177 (by decide) ?_
            exact ih114_36 x11_47 x10_44 v_places_45 ls _ _ (lv_sub hl [0, 1, 2, 3, 4, 5] rfl) hw h
          refine lv_if_eq (pc := 150) (tgt := 156) hx hb dX10_findTwo_150 (by decide) (fun hc_48 => ?_) (fun hc_48 => ?_)
          · have h := ift hc_48 h
            refine lv_iload (pc := 156) hx hb dX10_findTwo_156 (lv_at hl 2 rfl) ?_
            refine lv_iconst (pc := 158) (v := 2) hx hb dX10_findTwo_158 (by decide) ?_
            obtain ⟨j171_50, ej171_50, h⟩ := jk_at h
            have J171_50 : ∀ (v_places_49 : Nat → Int32) (ls : Array Slot) (H : Heap) (locs : List Loc), lv_has ls 13 [(11, .int x11_33), (10, .int x10_34), (9, .int r_27), (8, .int r_21), (0, .ref a_this), (1, .int x1)] → Wd D A s (wX10_findTwo cB cI cZ av a_this v_thrown v_size v_begins v_entries v_length v_pressed v_streamFrames v_zeros v_level v_sum v_tail v_isPlayed v_found v_strange v_innerFails v_outerFails v_mostMarks v_unsure v_may v_mocks v_sumThen v_logs v_places_49 v_powers v_syndromes) H locs → j171_50 v_places_49 = some res → W p l e (rmK 1 23) s m ([.ref a_this, .int x1] : List Value).toArray below meth c H locs 0 0 (MQ below (QG D (tyL cB cI cZ) A (fun res : Int32 × (Nat → Int32) => some (.int res.1)) (fun res : Int32 × (Nat → Int32) => (wX10_findTwo cB cI cZ av a_this v_thrown v_size v_begins v_entries v_length v_pressed v_streamFrames v_zeros v_level v_sum v_tail v_isPlayed v_found v_strange v_innerFails v_outerFails v_mostMarks v_unsure v_may v_mocks v_sumThen v_logs (res.2) v_powers v_syndromes)) res) ([.ref a_this, .int x1] : List Value).toArray s 0 0 A) (F0 m 171 ls []) := by
              intro v_places_49 ls H locs hl hw h
              have h := k1_at ej171_50 h
              obtain ⟨x10_51, ex10_51⟩ : ∃ y : Int32, y = x10_34 + 1 := ⟨_, rfl⟩
              have h := nm_at ex10_51 h
              refine lv_iinc (pc := 171) (v := x10_51) (lv' := [(10, .int x10_51), (11, .int x11_33), (9, .int r_27), (8, .int r_21), (0, .ref a_this), (1, .int x1)]) hx hb dX10_findTwo_171 hl (k := 1) rfl (by rw [ex10_51]; rfl) (by decide) rfl (fun ls hl => ?_)
              exact J174_46 x10_51 v_places_49 ls _ _ (lv_sub hl [1, 0, 2, 3, 4, 5] rfl) hw h
            refine lv_icmp_ge (pc := 159) (tgt := 171) hx hb dX10_findTwo_159 (by decide) (fun hc_52 => ?_) (fun hc_52 => ?_)
            · have h := ift hc_52 h
              exact J171_50 v_places_35 ls _ _ (lv_sub hl [1, 2, 3, 4, 5, 6] rfl) hw h
            · have h := iff' hc_52 h
              refine lv_aload_n (pc := 162) hx hb dX10_findTwo_162 rfl (lv_at hl 5 rfl) ?_
              refine gf_X10_55 (pc := 163) C hw 0 rfl rfl dX10_findTwo_163 ?_
              refine lv_iload (pc := 166) hx hb dX10_findTwo_166 (lv_at hl 2 rfl) ?_
              refine lv_iload (pc := 168) hx hb dX10_findTwo_168 (lv_at hl 1 rfl) ?_
              obtain ⟨hi_53, h⟩ := og_at h
              obtain ⟨v_places_54, ev_places_54⟩ : ∃ y : Nat → Int32, y = upd v_places_35 (Int32.toNatClampNeg x10_34) x11_33 := ⟨_, rfl⟩
              have h := nm_at ev_places_54 h
              refine x_iast (pc := 170) (wX10_findTwo cB cI cZ av a_this v_thrown v_size v_begins v_entries v_length v_pressed v_streamFrames v_zeros v_level v_sum v_tail v_isPlayed v_found v_strange v_innerFails v_outerFails v_mostMarks v_unsure v_may v_mocks v_sumThen v_logs v_places_54 v_powers v_syndromes) C hw 2 rfl hi_53 (by rw [ev_places_54]; rfl) dX10_findTwo_170 (fun H locs hw => ?_)
              exact J171_50 v_places_54 ls _ _ (lv_sub hl [1, 2, 3, 4, 5, 6] rfl) hw h
          · have h := iff' hc_48 h
            refine lv_goto (pc := 153) (tgt := 174) hx hb dX10_findTwo_153 (by decide) ?_
            exact J174_46 x10_34 v_places_35 ls _ _ (lv_sub hl [1, 2, 3, 4, 5, 6] rfl) hw h
    exact Lih114_36 FU 0 0 v_places ls _ _ (lv_sub hl [0, 1, 2, 3, 10, 11] rfl) hw h
  · have h := ift hc_14 h
    refine lv_iconst (pc := 51) (v := 0) hx hb dX10_findTwo_51 (by decide) ?_
    exact x_zret (pc := 52) (v := (0, v_places)) C (Option.some.inj h) rfl rfl hw dX10_findTwo_52
def wX10_mended (cB cI cZ : ClassId) (av : Nat → Nat) (a_this : Nat) (v_thrown : Int32) (v_size : Int32) (v_begins : Int32) (v_entries : Int32) (v_length : Int32) (v_pressed : Int32) (v_streamFrames : Int32) (v_zeros : Int32) (v_level : Int32) (v_sum : Int32) (v_tail : Int32) (v_isPlayed : Int32) (v_found : Int32) (v_strange : Int32) (v_innerFails : Int32) (v_outerFails : Int32) (v_mostMarks : Int32) (v_unsure : Int32) (v_may : Int32) (v_mocks : Int32) (v_sumThen : Int32) (v_logs : Nat → Int32) (v_marked : Nat → Int32) (v_places : Nat → Int32) (v_powers : Nat → Int32) (v_rows : Nat → Int32) (v_syndromes : Nat → Int32) (v_values : Nat → Int32) (v_word : Nat → Int32) : va_W := [oX10 a_this av v_thrown v_size v_begins v_entries v_length v_pressed v_streamFrames v_zeros v_level v_sum v_tail v_isPlayed v_found v_strange v_innerFails v_outerFails v_mostMarks v_unsure v_may v_mocks v_sumThen, ((av 4), .inl (cI, 256, .inl v_logs)), ((av 23), .inl (cZ, 32, .inl v_marked)), ((av 25), .inl (cI, 4, .inl v_places)), ((av 3), .inl (cI, 512, .inl v_powers)), ((av 27), .inl (cI, 20, .inl v_rows)), ((av 24), .inl (cI, 4, .inl v_syndromes)), ((av 26), .inl (cI, 4, .inl v_values)), ((av 22), .inl (cI, 32, .inl v_word))]
def fX10_mended_L77 (x1 : Int32) (j138_15 : (Nat → Int32) → (Nat → Int32) → (Nat → Int32) → Option (Int32 × (Nat → Int32) × (Nat → Int32) × (Nat → Int32) × (Nat → Int32) × (Nat → Int32))) (x2 : Int32) (x3_1 : Int32) (v_marked : Nat → Int32) (v_logs : Nat → Int32) (v_powers : Nat → Int32) (v_syndromes_5 : Nat → Int32) (j124_33 : (Nat → Int32) → (Nat → Int32) → (Nat → Int32) → Option (Int32 × (Nat → Int32) × (Nat → Int32) × (Nat → Int32) × (Nat → Int32) × (Nat → Int32))) : Nat → Int32 → (Nat → Int32) → (Nat → Int32) → (Nat → Int32) → Option (Int32 × (Nat → Int32) × (Nat → Int32) × (Nat → Int32) × (Nat → Int32) × (Nat → Int32))
  | 0, _, _, _, _ => none
  | F77_41 + 1, x4_37, v_places_38, v_rows_39, v_values_40 => if x1 ≤ x4_37 then j138_15 v_places_38 v_rows_39 v_values_40 else if x2 ≤ 0 then j138_15 v_places_38 v_rows_39 v_values_40 else if (3 : Int32) ≤ x3_1 then j138_15 v_places_38 v_rows_39 v_values_40 else og (ixb x4_37 32) (jk (fun (v_places_46 : Nat → Int32) (v_rows_47 : Nat → Int32) (v_values_48 : Nat → Int32) => nm (x4_37 + 1 : Int32) fun x4_50 => fX10_mended_L77 x1 j138_15 x2 x3_1 v_marked v_logs v_powers v_syndromes_5 j124_33 F77_41 x4_50 v_places_46 v_rows_47 v_values_48) fun j132_49 => if (v_marked (Int32.toNatClampNeg x4_37)) = 0 then og (ixb x3_1 4) (nm (upd v_places_38 (Int32.toNatClampNeg x3_1) x4_37) fun v_places_53 => ob3 (fX10_fits v_logs v_places_53 v_powers v_rows_39 v_syndromes_5 v_values_40 x1 (x3_1 + (1 : Int32))) fun r_54 v_rows_55 v_values_56 => if r_54 = 0 then j132_49 v_places_53 v_rows_55 v_values_56 else j124_33 v_places_53 v_rows_55 v_values_56) else j132_49 v_places_38 v_rows_39 v_values_40)
def fX10_mended_L5 (x1 : Int32) (j46_3 : Int32 → (Nat → Int32) → Option (Int32 × (Nat → Int32) × (Nat → Int32) × (Nat → Int32) × (Nat → Int32) × (Nat → Int32))) (v_marked : Nat → Int32) : Nat → Int32 → Int32 → (Nat → Int32) → Option (Int32 × (Nat → Int32) × (Nat → Int32) × (Nat → Int32) × (Nat → Int32) × (Nat → Int32))
  | 0, _, _, _ => none
  | F5_65 + 1, x4_62, x3_63, v_places_64 => if x1 ≤ x4_62 then j46_3 x3_63 v_places_64 else og (ixb x4_62 32) (jk (fun (x3_68 : Int32) (v_places_69 : Nat → Int32) => nm (x4_62 + 1 : Int32) fun x4_71 => fX10_mended_L5 x1 j46_3 v_marked F5_65 x4_71 x3_68 v_places_69) fun j40_70 => if (v_marked (Int32.toNatClampNeg x4_62)) = 0 then j40_70 x3_63 v_places_64 else jk (fun (v_places_73 : Nat → Int32) => nm (x3_63 + 1 : Int32) fun x3_75 => j40_70 x3_75 v_places_73) fun j37_74 => if (4 : Int32) ≤ x3_63 then j37_74 v_places_64 else og (ixb x3_63 4) (nm (upd v_places_64 (Int32.toNatClampNeg x3_63) x4_62) fun v_places_78 => j37_74 v_places_78))
def fX10_mended (v_logs : Nat → Int32) (v_marked : Nat → Int32) (v_places : Nat → Int32) (v_powers : Nat → Int32) (v_rows : Nat → Int32) (v_syndromes : Nat → Int32) (v_values : Nat → Int32) (v_word : Nat → Int32) (x1 : Int32) (x2 : Int32) : Option (Int32 × (Nat → Int32) × (Nat → Int32) × (Nat → Int32) × (Nat → Int32) × (Nat → Int32)) := jk (fun (x3_1 : Int32) (v_places_2 : Nat → Int32) => if x3_1 ≤ (4 : Int32) then ob1 (fX10_findSyndromes v_logs v_powers v_syndromes v_word x1) fun v_syndromes_5 => ob3 (fX10_fits v_logs v_places_2 v_powers v_rows v_syndromes_5 v_values x1 x3_1) fun r_7 v_rows_8 v_values_9 => if r_7 = 0 then jk (fun (v_places_12 : Nat → Int32) (v_rows_13 : Nat → Int32) (v_values_14 : Nat → Int32) => if x2 ≤ (1 : Int32) then some ((-2), v_places_12, v_rows_13, v_syndromes_5, v_values_14, v_word) else if x3_1 = 0 then ob2 (fX10_findTwo v_logs v_places_12 v_powers v_syndromes_5 x1) fun r_18 v_places_19 => if r_18 = 0 then some ((-2), v_places_19, v_rows_13, v_syndromes_5, v_values_14, v_word) else ob3 (fX10_fits v_logs v_places_19 v_powers v_rows_13 v_syndromes_5 v_values_14 x1 2) fun r_22 v_rows_23 v_values_24 => if r_22 = 0 then some ((-2), v_places_19, v_rows_23, v_syndromes_5, v_values_24, v_word) else ob2 (fX10_changed v_places_19 v_values_24 v_word 2) fun r_27 v_word_28 => some (r_27, v_places_19, v_rows_23, v_syndromes_5, v_values_24, v_word_28) else some ((-2), v_places_12, v_rows_13, v_syndromes_5, v_values_14, v_word)) fun j138_15 => jk (fun (v_places_30 : Nat → Int32) (v_rows_31 : Nat → Int32) (v_values_32 : Nat → Int32) => ob2 (fX10_changed v_places_30 v_values_32 v_word (x3_1 + (1 : Int32))) fun r_34 v_word_35 => some (r_34, v_places_30, v_rows_31, v_syndromes_5, v_values_32, v_word_35)) fun j124_33 => fX10_mended_L77 x1 j138_15 x2 x3_1 v_marked v_logs v_powers v_syndromes_5 j124_33 FU 0 v_places_2 v_rows_8 v_values_9 else ob2 (fX10_changed v_places_2 v_values_9 v_word x3_1) fun r_59 v_word_60 => some (r_59, v_places_2, v_rows_8, v_syndromes_5, v_values_9, v_word_60) else some ((-2), v_places_2, v_rows, v_syndromes, v_values, v_word)) fun j46_3 => fX10_mended_L5 x1 j46_3 v_marked FU 0 0 v_places
set_option maxHeartbeats 4000000 in
set_option maxRecDepth 100000 in
theorem ct_X10_mended (l : Launch) (D : va_G) (cB cI cZ : ClassId) (tw : Nat) (av : Nat → Nat) (a_this : Nat) (v_thrown : Int32) (v_size : Int32) (v_begins : Int32) (v_entries : Int32) (v_length : Int32) (v_pressed : Int32) (v_streamFrames : Int32) (v_zeros : Int32) (v_level : Int32) (v_sum : Int32) (v_tail : Int32) (v_isPlayed : Int32) (v_found : Int32) (v_strange : Int32) (v_innerFails : Int32) (v_outerFails : Int32) (v_mostMarks : Int32) (v_unsure : Int32) (v_may : Int32) (v_mocks : Int32) (v_sumThen : Int32) (v_logs : Nat → Int32) (v_marked : Nat → Int32) (v_places : Nat → Int32) (v_powers : Nat → Int32) (v_rows : Nat → Int32) (v_syndromes : Nat → Int32) (v_values : Nat → Int32) (v_word : Nat → Int32) (x1 : Int32) (x2 : Int32) (res : Int32 × (Nat → Int32) × (Nat → Int32) × (Nat → Int32) × (Nat → Int32) × (Nat → Int32)) (h : fX10_mended v_logs v_marked v_places v_powers v_rows v_syndromes v_values v_word x1 x2 = some res) : Ctr l yX10_mended cX10_mended 5 (some .int) (rmK 2 55) D (tyL cB cI cZ) tw [.ref a_this, .int x1, .int x2] (wX10_mended cB cI cZ av a_this v_thrown v_size v_begins v_entries v_length v_pressed v_streamFrames v_zeros v_level v_sum v_tail v_isPlayed v_found v_strange v_innerFails v_outerFails v_mostMarks v_unsure v_may v_mocks v_sumThen v_logs v_marked v_places v_powers v_rows v_syndromes v_values v_word) (fun res : Int32 × (Nat → Int32) × (Nat → Int32) × (Nat → Int32) × (Nat → Int32) × (Nat → Int32) => some (.int res.1)) (fun res : Int32 × (Nat → Int32) × (Nat → Int32) × (Nat → Int32) × (Nat → Int32) × (Nat → Int32) => (wX10_mended cB cI cZ av a_this v_thrown v_size v_begins v_entries v_length v_pressed v_streamFrames v_zeros v_level v_sum v_tail v_isPlayed v_found v_strange v_innerFails v_outerFails v_mostMarks v_unsure v_may v_mocks v_sumThen v_logs v_marked (res.2.1) v_powers (res.2.2.1) (res.2.2.2.1) (res.2.2.2.2.1) (res.2.2.2.2.2))) res := by
  refine ctr_of RX10 (by decide) rfl (Nat.le_of_ble_eq_true rfl) ?_
  intro p e s m below meth c A C hw ls hl
  have hx := C.1
  have hb := C.2.1
  have hl : lv_has ls 5 [(0, .ref a_this), (1, .int x1), (2, .int x2)] := hl
  unfold fX10_mended at h
  refine lv_iconst (pc := 0) (v := 0) hx hb dX10_mended_0 (by decide) ?_
  refine lv_istore_n (pc := 1) (lv' := [(3, .int 0), (0, .ref a_this), (1, .int x1), (2, .int x2)]) hx hb dX10_mended_1 rfl hl (by decide) rfl (fun ls hl => ?_)
  refine lv_iconst (pc := 2) (v := 0) hx hb dX10_mended_2 (by decide) ?_
  refine lv_istore (pc := 3) (lv' := [(4, .int 0), (3, .int 0), (0, .ref a_this), (1, .int x1), (2, .int x2)]) hx hb dX10_mended_3 hl (by decide) rfl (fun ls hl => ?_)
  obtain ⟨j46_3, ej46_3, h⟩ := jk_at h
  have J46_3 : ∀ (x3_1 : Int32) (v_places_2 : Nat → Int32) (ls : Array Slot) (H : Heap) (locs : List Loc), lv_has ls 5 [(3, .int x3_1), (0, .ref a_this), (1, .int x1), (2, .int x2)] → Wd D A s (wX10_mended cB cI cZ av a_this v_thrown v_size v_begins v_entries v_length v_pressed v_streamFrames v_zeros v_level v_sum v_tail v_isPlayed v_found v_strange v_innerFails v_outerFails v_mostMarks v_unsure v_may v_mocks v_sumThen v_logs v_marked v_places_2 v_powers v_rows v_syndromes v_values v_word) H locs → j46_3 x3_1 v_places_2 = some res → W p l e (rmK 2 55) s m ([.ref a_this, .int x1, .int x2] : List Value).toArray below meth c H locs 0 0 (MQ below (QG D (tyL cB cI cZ) A (fun res : Int32 × (Nat → Int32) × (Nat → Int32) × (Nat → Int32) × (Nat → Int32) × (Nat → Int32) => some (.int res.1)) (fun res : Int32 × (Nat → Int32) × (Nat → Int32) × (Nat → Int32) × (Nat → Int32) × (Nat → Int32) => (wX10_mended cB cI cZ av a_this v_thrown v_size v_begins v_entries v_length v_pressed v_streamFrames v_zeros v_level v_sum v_tail v_isPlayed v_found v_strange v_innerFails v_outerFails v_mostMarks v_unsure v_may v_mocks v_sumThen v_logs v_marked (res.2.1) v_powers (res.2.2.1) (res.2.2.2.1) (res.2.2.2.2.1) (res.2.2.2.2.2))) res) ([.ref a_this, .int x1, .int x2] : List Value).toArray s 0 0 A) (F0 m 46 ls []) := by
    intro x3_1 v_places_2 ls H locs hl hw h
    have h := k2_at ej46_3 h
    refine lv_iload_n (pc := 46) hx hb dX10_mended_46 rfl (lv_at hl 0 rfl) ?_
    refine lv_iconst (pc := 47) (v := 4) hx hb dX10_mended_47 (by decide) ?_
    refine lv_icmp_le (pc := 48) (tgt := 54) hx hb dX10_mended_48 (by decide) (fun hc_4 => ?_) (fun hc_4 => ?_)
    · have h := ift hc_4 h
      refine lv_aload_n (pc := 54) hx hb dX10_mended_54 rfl (lv_at hl 1 rfl) ?_
      refine lv_iload_n (pc := 55) hx hb dX10_mended_55 rfl (lv_at hl 2 rfl) ?_
      obtain ⟨v_syndromes_5, hq_6, h⟩ := ob1_at h
      refine x_callV (pc := 56) (rest := []) (stk := []) (wX10_mended cB cI cZ av a_this v_thrown v_size v_begins v_entries v_length v_pressed v_streamFrames v_zeros v_level v_sum v_tail v_isPlayed v_found v_strange v_innerFails v_outerFails v_mostMarks v_unsure v_may v_mocks v_sumThen v_logs v_marked v_places_2 v_powers v_rows v_syndromes_5 v_values v_word) C hw (ct_X10_findSyndromes l D cB cI cZ tw av a_this v_thrown v_size v_begins v_entries v_length v_pressed v_streamFrames v_zeros v_level v_sum v_tail v_isPlayed v_found v_strange v_innerFails v_outerFails v_mostMarks v_unsure v_may v_mocks v_sumThen v_logs v_powers v_syndromes v_word x1 v_syndromes_5 hq_6) cal_X10_findSyndromes tw_1236 (q0 := 0) rfl rfl [0, 1, 4, 6, 8] [2, 3, 5, 7] 9 [((av 23), .inl (cZ, 32, .inl v_marked)), ((av 25), .inl (cI, 4, .inl v_places_2)), ((av 27), .inl (cI, 20, .inl v_rows)), ((av 26), .inl (cI, 4, .inl v_values))] rfl rfl rfl rfl rfl rfl rfl rfl rfl rfl rfl (Nat.le_of_ble_eq_true rfl) hl.1 ⟨Nat.le_of_ble_eq_true rfl, Nat.le_of_ble_eq_true rfl⟩ ⟨Nat.zero_le _, Nat.zero_le _⟩ dX10_mended_56 (fun H locs hw => ?_)
      refine lv_aload_n (pc := 59) hx hb dX10_mended_59 rfl (lv_at hl 1 rfl) ?_
      refine lv_iload_n (pc := 60) hx hb dX10_mended_60 rfl (lv_at hl 2 rfl) ?_
      refine lv_iload_n (pc := 61) hx hb dX10_mended_61 rfl (lv_at hl 0 rfl) ?_
      obtain ⟨r_7, v_rows_8, v_values_9, hq_10, h⟩ := ob3_at h
      refine x_callV (pc := 62) (rest := []) (stk := [.int r_7]) (wX10_mended cB cI cZ av a_this v_thrown v_size v_begins v_entries v_length v_pressed v_streamFrames v_zeros v_level v_sum v_tail v_isPlayed v_found v_strange v_innerFails v_outerFails v_mostMarks v_unsure v_may v_mocks v_sumThen v_logs v_marked v_places_2 v_powers v_rows_8 v_syndromes_5 v_values_9 v_word) C hw (ct_X10_fits l D cB cI cZ tw av a_this v_thrown v_size v_begins v_entries v_length v_pressed v_streamFrames v_zeros v_level v_sum v_tail v_isPlayed v_found v_strange v_innerFails v_outerFails v_mostMarks v_unsure v_may v_mocks v_sumThen v_logs v_places_2 v_powers v_rows v_syndromes_5 v_values x1 x3_1 (r_7, v_rows_8, v_values_9) hq_10) cal_X10_fits tw_1248 (q0 := 0) rfl rfl [0, 1, 3, 4, 5, 6, 7] [2, 8] 9 [((av 23), .inl (cZ, 32, .inl v_marked)), ((av 22), .inl (cI, 32, .inl v_word))] rfl rfl rfl rfl rfl rfl rfl rfl rfl rfl rfl (Nat.le_of_ble_eq_true rfl) hl.1 ⟨Nat.le_of_ble_eq_true rfl, Nat.le_of_ble_eq_true rfl⟩ ⟨Nat.zero_le _, Nat.zero_le _⟩ dX10_mended_62 (fun H locs hw => ?_)
      refine lv_if_eq (pc := 65) (tgt := 74) hx hb dX10_mended_65 (by decide) (fun hc_11 => ?_) (fun hc_11 => ?_)
      · have h := ift hc_11 h
        refine lv_iconst (pc := 74) (v := 0) hx hb dX10_mended_74 (by decide) ?_
        refine lv_istore (pc := 75) (lv' := [(4, .int 0), (3, .int x3_1), (0, .ref a_this), (1, .int x1), (2, .int x2)]) hx hb dX10_mended_75 hl (by decide) rfl (fun ls hl => ?_)
        obtain ⟨j138_15, ej138_15, h⟩ := jk_at h
        have J138_15 : ∀ (v_places_12 : Nat → Int32) (v_rows_13 : Nat → Int32) (v_values_14 : Nat → Int32) (ls : Array Slot) (H : Heap) (locs : List Loc), lv_has ls 5 [(3, .int x3_1), (0, .ref a_this), (1, .int x1), (2, .int x2)] → Wd D A s (wX10_mended cB cI cZ av a_this v_thrown v_size v_begins v_entries v_length v_pressed v_streamFrames v_zeros v_level v_sum v_tail v_isPlayed v_found v_strange v_innerFails v_outerFails v_mostMarks v_unsure v_may v_mocks v_sumThen v_logs v_marked v_places_12 v_powers v_rows_13 v_syndromes_5 v_values_14 v_word) H locs → j138_15 v_places_12 v_rows_13 v_values_14 = some res → W p l e (rmK 2 55) s m ([.ref a_this, .int x1, .int x2] : List Value).toArray below meth c H locs 0 0 (MQ below (QG D (tyL cB cI cZ) A (fun res : Int32 × (Nat → Int32) × (Nat → Int32) × (Nat → Int32) × (Nat → Int32) × (Nat → Int32) => some (.int res.1)) (fun res : Int32 × (Nat → Int32) × (Nat → Int32) × (Nat → Int32) × (Nat → Int32) × (Nat → Int32) => (wX10_mended cB cI cZ av a_this v_thrown v_size v_begins v_entries v_length v_pressed v_streamFrames v_zeros v_level v_sum v_tail v_isPlayed v_found v_strange v_innerFails v_outerFails v_mostMarks v_unsure v_may v_mocks v_sumThen v_logs v_marked (res.2.1) v_powers (res.2.2.1) (res.2.2.2.1) (res.2.2.2.2.1) (res.2.2.2.2.2))) res) ([.ref a_this, .int x1, .int x2] : List Value).toArray s 0 0 A) (F0 m 138 ls []) := by
          intro v_places_12 v_rows_13 v_values_14 ls H locs hl hw h
          have h := k3_at ej138_15 h
          refine lv_iload_n (pc := 138) hx hb dX10_mended_138 rfl (lv_at hl 3 rfl) ?_
          refine lv_iconst (pc := 139) (v := 1) hx hb dX10_mended_139 (by decide) ?_
          refine lv_icmp_le (pc := 140) (tgt := 172) hx hb dX10_mended_140 (by decide) (fun hc_16 => ?_) (fun hc_16 => ?_)
          · have h := ift hc_16 h
            refine lv_bipush (pc := 172) (v := (-2)) hx hb dX10_mended_172 (by decide) ?_
            exact x_iret (pc := 174) (v := ((-2), v_places_12, v_rows_13, v_syndromes_5, v_values_14, v_word)) C (Option.some.inj h) rfl hw dX10_mended_174
          · have h := iff' hc_16 h
            refine lv_iload_n (pc := 143) hx hb dX10_mended_143 rfl (lv_at hl 0 rfl) ?_
            refine lv_if_ne (pc := 144) (tgt := 172) hx hb dX10_mended_144 (by decide) (fun hc_17 => ?_) (fun hc_17 => ?_)
            · have h := iff' hc_17 h
              refine lv_bipush (pc := 172) (v := (-2)) hx hb dX10_mended_172 (by decide) ?_
              exact x_iret (pc := 174) (v := ((-2), v_places_12, v_rows_13, v_syndromes_5, v_values_14, v_word)) C (Option.some.inj h) rfl hw dX10_mended_174
            · have h := ift hc_17 h
              refine lv_aload_n (pc := 147) hx hb dX10_mended_147 rfl (lv_at hl 1 rfl) ?_
              refine lv_iload_n (pc := 148) hx hb dX10_mended_148 rfl (lv_at hl 2 rfl) ?_
              obtain ⟨r_18, v_places_19, hq_20, h⟩ := ob2_at h
              refine x_callV (pc := 149) (rest := []) (stk := [.int r_18]) (wX10_mended cB cI cZ av a_this v_thrown v_size v_begins v_entries v_length v_pressed v_streamFrames v_zeros v_level v_sum v_tail v_isPlayed v_found v_strange v_innerFails v_outerFails v_mostMarks v_unsure v_may v_mocks v_sumThen v_logs v_marked v_places_19 v_powers v_rows_13 v_syndromes_5 v_values_14 v_word) C hw (ct_X10_findTwo l D cB cI cZ tw av a_this v_thrown v_size v_begins v_entries v_length v_pressed v_streamFrames v_zeros v_level v_sum v_tail v_isPlayed v_found v_strange v_innerFails v_outerFails v_mostMarks v_unsure v_may v_mocks v_sumThen v_logs v_places_12 v_powers v_syndromes_5 x1 (r_18, v_places_19) hq_20) cal_X10_findTwo tw_1264 (q0 := 0) rfl rfl [0, 1, 3, 4, 6] [2, 5, 7, 8] 9 [((av 23), .inl (cZ, 32, .inl v_marked)), ((av 27), .inl (cI, 20, .inl v_rows_13)), ((av 26), .inl (cI, 4, .inl v_values_14)), ((av 22), .inl (cI, 32, .inl v_word))] rfl rfl rfl rfl rfl rfl rfl rfl rfl rfl rfl (Nat.le_of_ble_eq_true rfl) hl.1 ⟨Nat.le_of_ble_eq_true rfl, Nat.le_of_ble_eq_true rfl⟩ ⟨Nat.zero_le _, Nat.zero_le _⟩ dX10_mended_149 (fun H locs hw => ?_)
              refine lv_if_eq (pc := 152) (tgt := 172) hx hb dX10_mended_152 (by decide) (fun hc_21 => ?_) (fun hc_21 => ?_)
              · have h := ift hc_21 h
                refine lv_bipush (pc := 172) (v := (-2)) hx hb dX10_mended_172 (by decide) ?_
                exact x_iret (pc := 174) (v := ((-2), v_places_19, v_rows_13, v_syndromes_5, v_values_14, v_word)) C (Option.some.inj h) rfl hw dX10_mended_174
              · have h := iff' hc_21 h
                refine lv_aload_n (pc := 155) hx hb dX10_mended_155 rfl (lv_at hl 1 rfl) ?_
                refine lv_iload_n (pc := 156) hx hb dX10_mended_156 rfl (lv_at hl 2 rfl) ?_
                refine lv_iconst (pc := 157) (v := 2) hx hb dX10_mended_157 (by decide) ?_
                obtain ⟨r_22, v_rows_23, v_values_24, hq_25, h⟩ := ob3_at h
                refine x_callV (pc := 158) (rest := []) (stk := [.int r_22]) (wX10_mended cB cI cZ av a_this v_thrown v_size v_begins v_entries v_length v_pressed v_streamFrames v_zeros v_level v_sum v_tail v_isPlayed v_found v_strange v_innerFails v_outerFails v_mostMarks v_unsure v_may v_mocks v_sumThen v_logs v_marked v_places_19 v_powers v_rows_23 v_syndromes_5 v_values_24 v_word) C hw (ct_X10_fits l D cB cI cZ tw av a_this v_thrown v_size v_begins v_entries v_length v_pressed v_streamFrames v_zeros v_level v_sum v_tail v_isPlayed v_found v_strange v_innerFails v_outerFails v_mostMarks v_unsure v_may v_mocks v_sumThen v_logs v_places_19 v_powers v_rows_13 v_syndromes_5 v_values_14 x1 2 (r_22, v_rows_23, v_values_24) hq_25) cal_X10_fits tw_1248 (q0 := 0) rfl rfl [0, 1, 3, 4, 5, 6, 7] [2, 8] 9 [((av 23), .inl (cZ, 32, .inl v_marked)), ((av 22), .inl (cI, 32, .inl v_word))] rfl rfl rfl rfl rfl rfl rfl rfl rfl rfl rfl (Nat.le_of_ble_eq_true rfl) hl.1 ⟨Nat.le_of_ble_eq_true rfl, Nat.le_of_ble_eq_true rfl⟩ ⟨Nat.zero_le _, Nat.zero_le _⟩ dX10_mended_158 (fun H locs hw => ?_)
                refine lv_if_eq (pc := 161) (tgt := 172) hx hb dX10_mended_161 (by decide) (fun hc_26 => ?_) (fun hc_26 => ?_)
                · have h := ift hc_26 h
                  refine lv_bipush (pc := 172) (v := (-2)) hx hb dX10_mended_172 (by decide) ?_
                  exact x_iret (pc := 174) (v := ((-2), v_places_19, v_rows_23, v_syndromes_5, v_values_24, v_word)) C (Option.some.inj h) rfl hw dX10_mended_174
                · have h := iff' hc_26 h
                  refine lv_aload_n (pc := 164) hx hb dX10_mended_164 rfl (lv_at hl 1 rfl) ?_
                  refine lv_iconst (pc := 165) (v := 2) hx hb dX10_mended_165 (by decide) ?_
                  obtain ⟨r_27, v_word_28, hq_29, h⟩ := ob2_at h
                  refine x_callV (pc := 166) (rest := []) (stk := [.int r_27]) (wX10_mended cB cI cZ av a_this v_thrown v_size v_begins v_entries v_length v_pressed v_streamFrames v_zeros v_level v_sum v_tail v_isPlayed v_found v_strange v_innerFails v_outerFails v_mostMarks v_unsure v_may v_mocks v_sumThen v_logs v_marked v_places_19 v_powers v_rows_23 v_syndromes_5 v_values_24 v_word_28) C hw (ct_X10_changed l D cB cI cZ tw av a_this v_thrown v_size v_begins v_entries v_length v_pressed v_streamFrames v_zeros v_level v_sum v_tail v_isPlayed v_found v_strange v_innerFails v_outerFails v_mostMarks v_unsure v_may v_mocks v_sumThen v_places_19 v_values_24 v_word 2 (r_27, v_word_28) hq_29) cal_X10_changed tw_1260 (q0 := 0) rfl rfl [0, 3, 7, 8] [1, 2, 4, 5, 6] 9 [((av 4), .inl (cI, 256, .inl v_logs)), ((av 23), .inl (cZ, 32, .inl v_marked)), ((av 3), .inl (cI, 512, .inl v_powers)), ((av 27), .inl (cI, 20, .inl v_rows_23)), ((av 24), .inl (cI, 4, .inl v_syndromes_5))] rfl rfl rfl rfl rfl rfl rfl rfl rfl rfl rfl (Nat.le_of_ble_eq_true rfl) hl.1 ⟨Nat.le_of_ble_eq_true rfl, Nat.le_of_ble_eq_true rfl⟩ ⟨Nat.zero_le _, Nat.zero_le _⟩ dX10_mended_166 (fun H locs hw => ?_)
                  refine lv_goto (pc := 169) (tgt := 174) hx hb dX10_mended_169 (by decide) ?_
                  exact x_iret (pc := 174) (v := (r_27, v_places_19, v_rows_23, v_syndromes_5, v_values_24, v_word_28)) C (Option.some.inj h) rfl hw dX10_mended_174
        obtain ⟨j124_33, ej124_33, h⟩ := jk_at h
        have J124_33 : ∀ (v_places_30 : Nat → Int32) (v_rows_31 : Nat → Int32) (v_values_32 : Nat → Int32) (ls : Array Slot) (H : Heap) (locs : List Loc), lv_has ls 5 [(3, .int x3_1), (0, .ref a_this)] → Wd D A s (wX10_mended cB cI cZ av a_this v_thrown v_size v_begins v_entries v_length v_pressed v_streamFrames v_zeros v_level v_sum v_tail v_isPlayed v_found v_strange v_innerFails v_outerFails v_mostMarks v_unsure v_may v_mocks v_sumThen v_logs v_marked v_places_30 v_powers v_rows_31 v_syndromes_5 v_values_32 v_word) H locs → j124_33 v_places_30 v_rows_31 v_values_32 = some res → W p l e (rmK 2 55) s m ([.ref a_this, .int x1, .int x2] : List Value).toArray below meth c H locs 0 0 (MQ below (QG D (tyL cB cI cZ) A (fun res : Int32 × (Nat → Int32) × (Nat → Int32) × (Nat → Int32) × (Nat → Int32) × (Nat → Int32) => some (.int res.1)) (fun res : Int32 × (Nat → Int32) × (Nat → Int32) × (Nat → Int32) × (Nat → Int32) × (Nat → Int32) => (wX10_mended cB cI cZ av a_this v_thrown v_size v_begins v_entries v_length v_pressed v_streamFrames v_zeros v_level v_sum v_tail v_isPlayed v_found v_strange v_innerFails v_outerFails v_mostMarks v_unsure v_may v_mocks v_sumThen v_logs v_marked (res.2.1) v_powers (res.2.2.1) (res.2.2.2.1) (res.2.2.2.2.1) (res.2.2.2.2.2))) res) ([.ref a_this, .int x1, .int x2] : List Value).toArray s 0 0 A) (F0 m 124 ls []) := by
          intro v_places_30 v_rows_31 v_values_32 ls H locs hl hw h
          have h := k3_at ej124_33 h
          refine lv_aload_n (pc := 124) hx hb dX10_mended_124 rfl (lv_at hl 1 rfl) ?_
          refine lv_iload_n (pc := 125) hx hb dX10_mended_125 rfl (lv_at hl 0 rfl) ?_
          refine lv_iconst (pc := 126) (v := 1) hx hb dX10_mended_126 (by decide) ?_
          refine lv_iadd (pc := 127) hx hb dX10_mended_127 ?_
          obtain ⟨r_34, v_word_35, hq_36, h⟩ := ob2_at h
          refine x_callV (pc := 128) (rest := []) (stk := [.int r_34]) (wX10_mended cB cI cZ av a_this v_thrown v_size v_begins v_entries v_length v_pressed v_streamFrames v_zeros v_level v_sum v_tail v_isPlayed v_found v_strange v_innerFails v_outerFails v_mostMarks v_unsure v_may v_mocks v_sumThen v_logs v_marked v_places_30 v_powers v_rows_31 v_syndromes_5 v_values_32 v_word_35) C hw (ct_X10_changed l D cB cI cZ tw av a_this v_thrown v_size v_begins v_entries v_length v_pressed v_streamFrames v_zeros v_level v_sum v_tail v_isPlayed v_found v_strange v_innerFails v_outerFails v_mostMarks v_unsure v_may v_mocks v_sumThen v_places_30 v_values_32 v_word (x3_1 + (1 : Int32)) (r_34, v_word_35) hq_36) cal_X10_changed tw_1260 (q0 := 0) rfl rfl [0, 3, 7, 8] [1, 2, 4, 5, 6] 9 [((av 4), .inl (cI, 256, .inl v_logs)), ((av 23), .inl (cZ, 32, .inl v_marked)), ((av 3), .inl (cI, 512, .inl v_powers)), ((av 27), .inl (cI, 20, .inl v_rows_31)), ((av 24), .inl (cI, 4, .inl v_syndromes_5))] rfl rfl rfl rfl rfl rfl rfl rfl rfl rfl rfl (Nat.le_of_ble_eq_true rfl) hl.1 ⟨Nat.le_of_ble_eq_true rfl, Nat.le_of_ble_eq_true rfl⟩ ⟨Nat.zero_le _, Nat.zero_le _⟩ dX10_mended_128 (fun H locs hw => ?_)
          exact x_iret (pc := 131) (v := (r_34, v_places_30, v_rows_31, v_syndromes_5, v_values_32, v_word_35)) C (Option.some.inj h) rfl hw dX10_mended_131
        have Lih77_41 : ∀ (F : Nat) (x4_37 : Int32) (v_places_38 : Nat → Int32) (v_rows_39 : Nat → Int32) (v_values_40 : Nat → Int32) (ls : Array Slot) (H : Heap) (locs : List Loc), lv_has ls 5 [(4, .int x4_37), (3, .int x3_1), (0, .ref a_this), (1, .int x1), (2, .int x2)] → Wd D A s (wX10_mended cB cI cZ av a_this v_thrown v_size v_begins v_entries v_length v_pressed v_streamFrames v_zeros v_level v_sum v_tail v_isPlayed v_found v_strange v_innerFails v_outerFails v_mostMarks v_unsure v_may v_mocks v_sumThen v_logs v_marked v_places_38 v_powers v_rows_39 v_syndromes_5 v_values_40 v_word) H locs → fX10_mended_L77 x1 j138_15 x2 x3_1 v_marked v_logs v_powers v_syndromes_5 j124_33 F x4_37 v_places_38 v_rows_39 v_values_40 = some res → W p l e (rmK 2 55) s m ([.ref a_this, .int x1, .int x2] : List Value).toArray below meth c H locs 0 0 (MQ below (QG D (tyL cB cI cZ) A (fun res : Int32 × (Nat → Int32) × (Nat → Int32) × (Nat → Int32) × (Nat → Int32) × (Nat → Int32) => some (.int res.1)) (fun res : Int32 × (Nat → Int32) × (Nat → Int32) × (Nat → Int32) × (Nat → Int32) × (Nat → Int32) => (wX10_mended cB cI cZ av a_this v_thrown v_size v_begins v_entries v_length v_pressed v_streamFrames v_zeros v_level v_sum v_tail v_isPlayed v_found v_strange v_innerFails v_outerFails v_mostMarks v_unsure v_may v_mocks v_sumThen v_logs v_marked (res.2.1) v_powers (res.2.2.1) (res.2.2.2.1) (res.2.2.2.2.1) (res.2.2.2.2.2))) res) ([.ref a_this, .int x1, .int x2] : List Value).toArray s 0 0 A) (F0 m 77 ls []) := by
          intro F
          induction F with
          | zero => intro x4_37 v_places_38 v_rows_39 v_values_40 ls H locs hl hw h; rw [fX10_mended_L77.eq_1] at h; cases h
          | succ F77_41 ih77_41 =>
            intro x4_37 v_places_38 v_rows_39 v_values_40 ls H locs hl hw h
            rw [fX10_mended_L77.eq_2] at h
            refine lv_iload (pc := 77) hx hb dX10_mended_77 (lv_at hl 0 rfl) ?_
            refine lv_iload_n (pc := 79) hx hb dX10_mended_79 rfl (lv_at hl 3 rfl) ?_
            refine lv_icmp_ge (pc := 80) (tgt := 138) hx hb dX10_mended_80 (by decide) (fun hc_42 => ?_) (fun hc_42 => ?_)
            · have h := ift hc_42 h
              exact J138_15 v_places_38 v_rows_39 v_values_40 ls _ _ (lv_sub hl [1, 2, 3, 4] rfl) hw h
            · have h := iff' hc_42 h
              refine lv_iload_n (pc := 83) hx hb dX10_mended_83 rfl (lv_at hl 4 rfl) ?_
              refine lv_if_le (pc := 84) (tgt := 138) hx hb dX10_mended_84 (by decide) (fun hc_43 => ?_) (fun hc_43 => ?_)
              · have h := ift hc_43 h
                exact J138_15 v_places_38 v_rows_39 v_values_40 ls _ _ (lv_sub hl [1, 2, 3, 4] rfl) hw h
              · have h := iff' hc_43 h
                refine lv_iload_n (pc := 87) hx hb dX10_mended_87 rfl (lv_at hl 1 rfl) ?_
                refine lv_iconst (pc := 88) (v := 3) hx hb dX10_mended_88 (by decide) ?_
                refine lv_icmp_ge (pc := 89) (tgt := 138) hx hb dX10_mended_89 (by decide) (fun hc_44 => ?_) (fun hc_44 => ?_)
                · have h := ift hc_44 h
                  exact J138_15 v_places_38 v_rows_39 v_values_40 ls _ _ (lv_sub hl [1, 2, 3, 4] rfl) hw h
                · have h := iff' hc_44 h
                  refine lv_aload_n (pc := 92) hx hb dX10_mended_92 rfl (lv_at hl 2 rfl) ?_
                  refine gf_X10_48 (pc := 93) C hw 0 rfl rfl dX10_mended_93 ?_
                  refine lv_iload (pc := 96) hx hb dX10_mended_96 (lv_at hl 0 rfl) ?_
                  obtain ⟨hi_45, h⟩ := og_at h
                  refine x_zald (pc := 98) C hw 2 rfl hi_45 dX10_mended_98 ?_
                  obtain ⟨j132_49, ej132_49, h⟩ := jk_at h
                  have J132_49 : ∀ (v_places_46 : Nat → Int32) (v_rows_47 : Nat → Int32) (v_values_48 : Nat → Int32) (ls : Array Slot) (H : Heap) (locs : List Loc), lv_has ls 5 [(4, .int x4_37), (3, .int x3_1), (0, .ref a_this), (1, .int x1), (2, .int x2)] → Wd D A s (wX10_mended cB cI cZ av a_this v_thrown v_size v_begins v_entries v_length v_pressed v_streamFrames v_zeros v_level v_sum v_tail v_isPlayed v_found v_strange v_innerFails v_outerFails v_mostMarks v_unsure v_may v_mocks v_sumThen v_logs v_marked v_places_46 v_powers v_rows_47 v_syndromes_5 v_values_48 v_word) H locs → j132_49 v_places_46 v_rows_47 v_values_48 = some res → W p l e (rmK 2 55) s m ([.ref a_this, .int x1, .int x2] : List Value).toArray below meth c H locs 0 0 (MQ below (QG D (tyL cB cI cZ) A (fun res : Int32 × (Nat → Int32) × (Nat → Int32) × (Nat → Int32) × (Nat → Int32) × (Nat → Int32) => some (.int res.1)) (fun res : Int32 × (Nat → Int32) × (Nat → Int32) × (Nat → Int32) × (Nat → Int32) × (Nat → Int32) => (wX10_mended cB cI cZ av a_this v_thrown v_size v_begins v_entries v_length v_pressed v_streamFrames v_zeros v_level v_sum v_tail v_isPlayed v_found v_strange v_innerFails v_outerFails v_mostMarks v_unsure v_may v_mocks v_sumThen v_logs v_marked (res.2.1) v_powers (res.2.2.1) (res.2.2.2.1) (res.2.2.2.2.1) (res.2.2.2.2.2))) res) ([.ref a_this, .int x1, .int x2] : List Value).toArray s 0 0 A) (F0 m 132 ls []) := by
                    intro v_places_46 v_rows_47 v_values_48 ls H locs hl hw h
                    have h := k3_at ej132_49 h
                    obtain ⟨x4_50, ex4_50⟩ : ∃ y : Int32, y = x4_37 + 1 := ⟨_, rfl⟩
                    have h := nm_at ex4_50 h
                    refine lv_iinc (pc := 132) (v := x4_50) (lv' := [(4, .int x4_50), (3, .int x3_1), (0, .ref a_this), (1, .int x1), (2, .int x2)]) hx hb dX10_mended_132 hl (k := 0) rfl (by rw [ex4_50]; rfl) (by decide) rfl (fun ls hl => ?_)
                    refine lv_goto (pc := 135) (tgt := 77) hx hb dX10_mended_135 (by decide) ?_
                    exact ih77_41 x4_50 v_places_46 v_rows_47 v_values_48 ls _ _ (lv_sub hl [0, 1, 2, 3, 4] rfl) hw h
                  refine lv_if_eq (pc := 99) (tgt := 105) hx hb dX10_mended_99 (by decide) (fun hc_51 => ?_) (fun hc_51 => ?_)
                  · have h := ift hc_51 h
                    refine lv_aload_n (pc := 105) hx hb dX10_mended_105 rfl (lv_at hl 2 rfl) ?_
                    refine gf_X10_55 (pc := 106) C hw 0 rfl rfl dX10_mended_106 ?_
                    refine lv_iload_n (pc := 109) hx hb dX10_mended_109 rfl (lv_at hl 1 rfl) ?_
                    refine lv_iload (pc := 110) hx hb dX10_mended_110 (lv_at hl 0 rfl) ?_
                    obtain ⟨hi_52, h⟩ := og_at h
                    obtain ⟨v_places_53, ev_places_53⟩ : ∃ y : Nat → Int32, y = upd v_places_38 (Int32.toNatClampNeg x3_1) x4_37 := ⟨_, rfl⟩
                    have h := nm_at ev_places_53 h
                    refine x_iast (pc := 112) (wX10_mended cB cI cZ av a_this v_thrown v_size v_begins v_entries v_length v_pressed v_streamFrames v_zeros v_level v_sum v_tail v_isPlayed v_found v_strange v_innerFails v_outerFails v_mostMarks v_unsure v_may v_mocks v_sumThen v_logs v_marked v_places_53 v_powers v_rows_39 v_syndromes_5 v_values_40 v_word) C hw 3 rfl hi_52 (by rw [ev_places_53]; rfl) dX10_mended_112 (fun H locs hw => ?_)
                    refine lv_aload_n (pc := 113) hx hb dX10_mended_113 rfl (lv_at hl 2 rfl) ?_
                    refine lv_iload_n (pc := 114) hx hb dX10_mended_114 rfl (lv_at hl 3 rfl) ?_
                    refine lv_iload_n (pc := 115) hx hb dX10_mended_115 rfl (lv_at hl 1 rfl) ?_
                    refine lv_iconst (pc := 116) (v := 1) hx hb dX10_mended_116 (by decide) ?_
                    refine lv_iadd (pc := 117) hx hb dX10_mended_117 ?_
                    obtain ⟨r_54, v_rows_55, v_values_56, hq_57, h⟩ := ob3_at h
                    refine x_callV (pc := 118) (rest := []) (stk := [.int r_54]) (wX10_mended cB cI cZ av a_this v_thrown v_size v_begins v_entries v_length v_pressed v_streamFrames v_zeros v_level v_sum v_tail v_isPlayed v_found v_strange v_innerFails v_outerFails v_mostMarks v_unsure v_may v_mocks v_sumThen v_logs v_marked v_places_53 v_powers v_rows_55 v_syndromes_5 v_values_56 v_word) C hw (ct_X10_fits l D cB cI cZ tw av a_this v_thrown v_size v_begins v_entries v_length v_pressed v_streamFrames v_zeros v_level v_sum v_tail v_isPlayed v_found v_strange v_innerFails v_outerFails v_mostMarks v_unsure v_may v_mocks v_sumThen v_logs v_places_53 v_powers v_rows_39 v_syndromes_5 v_values_40 x1 (x3_1 + (1 : Int32)) (r_54, v_rows_55, v_values_56) hq_57) cal_X10_fits tw_1248 (q0 := 0) rfl rfl [0, 1, 3, 4, 5, 6, 7] [2, 8] 9 [((av 23), .inl (cZ, 32, .inl v_marked)), ((av 22), .inl (cI, 32, .inl v_word))] rfl rfl rfl rfl rfl rfl rfl rfl rfl rfl rfl (Nat.le_of_ble_eq_true rfl) hl.1 ⟨Nat.le_of_ble_eq_true rfl, Nat.le_of_ble_eq_true rfl⟩ ⟨Nat.zero_le _, Nat.zero_le _⟩ dX10_mended_118 (fun H locs hw => ?_)
                    refine lv_if_eq (pc := 121) (tgt := 132) hx hb dX10_mended_121 (by decide) (fun hc_58 => ?_) (fun hc_58 => ?_)
                    · have h := ift hc_58 h
                      exact J132_49 v_places_53 v_rows_55 v_values_56 ls _ _ (lv_sub hl [0, 1, 2, 3, 4] rfl) hw h
                    · have h := iff' hc_58 h
                      exact J124_33 v_places_53 v_rows_55 v_values_56 ls _ _ (lv_sub hl [1, 2] rfl) hw h
                  · have h := iff' hc_51 h
                    refine lv_goto (pc := 102) (tgt := 132) hx hb dX10_mended_102 (by decide) ?_
                    exact J132_49 v_places_38 v_rows_39 v_values_40 ls _ _ (lv_sub hl [0, 1, 2, 3, 4] rfl) hw h
        exact Lih77_41 FU 0 v_places_2 v_rows_8 v_values_9 ls _ _ (lv_sub hl [0, 1, 2, 3, 4] rfl) hw h
      · have h := iff' hc_11 h
        refine lv_aload_n (pc := 68) hx hb dX10_mended_68 rfl (lv_at hl 1 rfl) ?_
        refine lv_iload_n (pc := 69) hx hb dX10_mended_69 rfl (lv_at hl 0 rfl) ?_
        obtain ⟨r_59, v_word_60, hq_61, h⟩ := ob2_at h
        refine x_callV (pc := 70) (rest := []) (stk := [.int r_59]) (wX10_mended cB cI cZ av a_this v_thrown v_size v_begins v_entries v_length v_pressed v_streamFrames v_zeros v_level v_sum v_tail v_isPlayed v_found v_strange v_innerFails v_outerFails v_mostMarks v_unsure v_may v_mocks v_sumThen v_logs v_marked v_places_2 v_powers v_rows_8 v_syndromes_5 v_values_9 v_word_60) C hw (ct_X10_changed l D cB cI cZ tw av a_this v_thrown v_size v_begins v_entries v_length v_pressed v_streamFrames v_zeros v_level v_sum v_tail v_isPlayed v_found v_strange v_innerFails v_outerFails v_mostMarks v_unsure v_may v_mocks v_sumThen v_places_2 v_values_9 v_word x3_1 (r_59, v_word_60) hq_61) cal_X10_changed tw_1260 (q0 := 0) rfl rfl [0, 3, 7, 8] [1, 2, 4, 5, 6] 9 [((av 4), .inl (cI, 256, .inl v_logs)), ((av 23), .inl (cZ, 32, .inl v_marked)), ((av 3), .inl (cI, 512, .inl v_powers)), ((av 27), .inl (cI, 20, .inl v_rows_8)), ((av 24), .inl (cI, 4, .inl v_syndromes_5))] rfl rfl rfl rfl rfl rfl rfl rfl rfl rfl rfl (Nat.le_of_ble_eq_true rfl) hl.1 ⟨Nat.le_of_ble_eq_true rfl, Nat.le_of_ble_eq_true rfl⟩ ⟨Nat.zero_le _, Nat.zero_le _⟩ dX10_mended_70 (fun H locs hw => ?_)
        exact x_iret (pc := 73) (v := (r_59, v_places_2, v_rows_8, v_syndromes_5, v_values_9, v_word_60)) C (Option.some.inj h) rfl hw dX10_mended_73
    · have h := iff' hc_4 h
      refine lv_bipush (pc := 51) (v := (-2)) hx hb dX10_mended_51 (by decide) ?_
      exact x_iret (pc := 53) (v := ((-2), v_places_2, v_rows, v_syndromes, v_values, v_word)) C (Option.some.inj h) rfl hw dX10_mended_53
  have Lih5_65 : ∀ (F : Nat) (x4_62 : Int32) (x3_63 : Int32) (v_places_64 : Nat → Int32) (ls : Array Slot) (H : Heap) (locs : List Loc), lv_has ls 5 [(4, .int x4_62), (3, .int x3_63), (0, .ref a_this), (1, .int x1), (2, .int x2)] → Wd D A s (wX10_mended cB cI cZ av a_this v_thrown v_size v_begins v_entries v_length v_pressed v_streamFrames v_zeros v_level v_sum v_tail v_isPlayed v_found v_strange v_innerFails v_outerFails v_mostMarks v_unsure v_may v_mocks v_sumThen v_logs v_marked v_places_64 v_powers v_rows v_syndromes v_values v_word) H locs → fX10_mended_L5 x1 j46_3 v_marked F x4_62 x3_63 v_places_64 = some res → W p l e (rmK 2 55) s m ([.ref a_this, .int x1, .int x2] : List Value).toArray below meth c H locs 0 0 (MQ below (QG D (tyL cB cI cZ) A (fun res : Int32 × (Nat → Int32) × (Nat → Int32) × (Nat → Int32) × (Nat → Int32) × (Nat → Int32) => some (.int res.1)) (fun res : Int32 × (Nat → Int32) × (Nat → Int32) × (Nat → Int32) × (Nat → Int32) × (Nat → Int32) => (wX10_mended cB cI cZ av a_this v_thrown v_size v_begins v_entries v_length v_pressed v_streamFrames v_zeros v_level v_sum v_tail v_isPlayed v_found v_strange v_innerFails v_outerFails v_mostMarks v_unsure v_may v_mocks v_sumThen v_logs v_marked (res.2.1) v_powers (res.2.2.1) (res.2.2.2.1) (res.2.2.2.2.1) (res.2.2.2.2.2))) res) ([.ref a_this, .int x1, .int x2] : List Value).toArray s 0 0 A) (F0 m 5 ls []) := by
    intro F
    induction F with
    | zero => intro x4_62 x3_63 v_places_64 ls H locs hl hw h; rw [fX10_mended_L5.eq_1] at h; cases h
    | succ F5_65 ih5_65 =>
      intro x4_62 x3_63 v_places_64 ls H locs hl hw h
      rw [fX10_mended_L5.eq_2] at h
      refine lv_iload (pc := 5) hx hb dX10_mended_5 (lv_at hl 0 rfl) ?_
      refine lv_iload_n (pc := 7) hx hb dX10_mended_7 rfl (lv_at hl 3 rfl) ?_
      refine lv_icmp_ge (pc := 8) (tgt := 46) hx hb dX10_mended_8 (by decide) (fun hc_66 => ?_) (fun hc_66 => ?_)
      · have h := ift hc_66 h
        exact J46_3 x3_63 v_places_64 ls _ _ (lv_sub hl [1, 2, 3, 4] rfl) hw h
      · have h := iff' hc_66 h
        refine lv_aload_n (pc := 11) hx hb dX10_mended_11 rfl (lv_at hl 2 rfl) ?_
        refine gf_X10_48 (pc := 12) C hw 0 rfl rfl dX10_mended_12 ?_
        refine lv_iload (pc := 15) hx hb dX10_mended_15 (lv_at hl 0 rfl) ?_
        obtain ⟨hi_67, h⟩ := og_at h
        refine x_zald (pc := 17) C hw 2 rfl hi_67 dX10_mended_17 ?_
        obtain ⟨j40_70, ej40_70, h⟩ := jk_at h
        have J40_70 : ∀ (x3_68 : Int32) (v_places_69 : Nat → Int32) (ls : Array Slot) (H : Heap) (locs : List Loc), lv_has ls 5 [(4, .int x4_62), (3, .int x3_68), (0, .ref a_this), (1, .int x1), (2, .int x2)] → Wd D A s (wX10_mended cB cI cZ av a_this v_thrown v_size v_begins v_entries v_length v_pressed v_streamFrames v_zeros v_level v_sum v_tail v_isPlayed v_found v_strange v_innerFails v_outerFails v_mostMarks v_unsure v_may v_mocks v_sumThen v_logs v_marked v_places_69 v_powers v_rows v_syndromes v_values v_word) H locs → j40_70 x3_68 v_places_69 = some res → W p l e (rmK 2 55) s m ([.ref a_this, .int x1, .int x2] : List Value).toArray below meth c H locs 0 0 (MQ below (QG D (tyL cB cI cZ) A (fun res : Int32 × (Nat → Int32) × (Nat → Int32) × (Nat → Int32) × (Nat → Int32) × (Nat → Int32) => some (.int res.1)) (fun res : Int32 × (Nat → Int32) × (Nat → Int32) × (Nat → Int32) × (Nat → Int32) × (Nat → Int32) => (wX10_mended cB cI cZ av a_this v_thrown v_size v_begins v_entries v_length v_pressed v_streamFrames v_zeros v_level v_sum v_tail v_isPlayed v_found v_strange v_innerFails v_outerFails v_mostMarks v_unsure v_may v_mocks v_sumThen v_logs v_marked (res.2.1) v_powers (res.2.2.1) (res.2.2.2.1) (res.2.2.2.2.1) (res.2.2.2.2.2))) res) ([.ref a_this, .int x1, .int x2] : List Value).toArray s 0 0 A) (F0 m 40 ls []) := by
          intro x3_68 v_places_69 ls H locs hl hw h
          have h := k2_at ej40_70 h
          obtain ⟨x4_71, ex4_71⟩ : ∃ y : Int32, y = x4_62 + 1 := ⟨_, rfl⟩
          have h := nm_at ex4_71 h
          refine lv_iinc (pc := 40) (v := x4_71) (lv' := [(4, .int x4_71), (3, .int x3_68), (0, .ref a_this), (1, .int x1), (2, .int x2)]) hx hb dX10_mended_40 hl (k := 0) rfl (by rw [ex4_71]; rfl) (by decide) rfl (fun ls hl => ?_)
          refine lv_goto (pc := 43) (tgt := 5) hx hb dX10_mended_43 (by decide) ?_
          exact ih5_65 x4_71 x3_68 v_places_69 ls _ _ (lv_sub hl [0, 1, 2, 3, 4] rfl) hw h
        refine lv_if_ne (pc := 18) (tgt := 24) hx hb dX10_mended_18 (by decide) (fun hc_72 => ?_) (fun hc_72 => ?_)
        · have h := iff' hc_72 h
          refine lv_iload_n (pc := 24) hx hb dX10_mended_24 rfl (lv_at hl 1 rfl) ?_
          refine lv_iconst (pc := 25) (v := 4) hx hb dX10_mended_25 (by decide) ?_
          obtain ⟨j37_74, ej37_74, h⟩ := jk_at h
          have J37_74 : ∀ (v_places_73 : Nat → Int32) (ls : Array Slot) (H : Heap) (locs : List Loc), lv_has ls 5 [(4, .int x4_62), (3, .int x3_63), (0, .ref a_this), (1, .int x1), (2, .int x2)] → Wd D A s (wX10_mended cB cI cZ av a_this v_thrown v_size v_begins v_entries v_length v_pressed v_streamFrames v_zeros v_level v_sum v_tail v_isPlayed v_found v_strange v_innerFails v_outerFails v_mostMarks v_unsure v_may v_mocks v_sumThen v_logs v_marked v_places_73 v_powers v_rows v_syndromes v_values v_word) H locs → j37_74 v_places_73 = some res → W p l e (rmK 2 55) s m ([.ref a_this, .int x1, .int x2] : List Value).toArray below meth c H locs 0 0 (MQ below (QG D (tyL cB cI cZ) A (fun res : Int32 × (Nat → Int32) × (Nat → Int32) × (Nat → Int32) × (Nat → Int32) × (Nat → Int32) => some (.int res.1)) (fun res : Int32 × (Nat → Int32) × (Nat → Int32) × (Nat → Int32) × (Nat → Int32) × (Nat → Int32) => (wX10_mended cB cI cZ av a_this v_thrown v_size v_begins v_entries v_length v_pressed v_streamFrames v_zeros v_level v_sum v_tail v_isPlayed v_found v_strange v_innerFails v_outerFails v_mostMarks v_unsure v_may v_mocks v_sumThen v_logs v_marked (res.2.1) v_powers (res.2.2.1) (res.2.2.2.1) (res.2.2.2.2.1) (res.2.2.2.2.2))) res) ([.ref a_this, .int x1, .int x2] : List Value).toArray s 0 0 A) (F0 m 37 ls []) := by
            intro v_places_73 ls H locs hl hw h
            have h := k1_at ej37_74 h
            obtain ⟨x3_75, ex3_75⟩ : ∃ y : Int32, y = x3_63 + 1 := ⟨_, rfl⟩
            have h := nm_at ex3_75 h
            refine lv_iinc (pc := 37) (v := x3_75) (lv' := [(3, .int x3_75), (4, .int x4_62), (0, .ref a_this), (1, .int x1), (2, .int x2)]) hx hb dX10_mended_37 hl (k := 1) rfl (by rw [ex3_75]; rfl) (by decide) rfl (fun ls hl => ?_)
            exact J40_70 x3_75 v_places_73 ls _ _ (lv_sub hl [1, 0, 2, 3, 4] rfl) hw h
          refine lv_icmp_ge (pc := 26) (tgt := 37) hx hb dX10_mended_26 (by decide) (fun hc_76 => ?_) (fun hc_76 => ?_)
          · have h := ift hc_76 h
            exact J37_74 v_places_64 ls _ _ (lv_sub hl [0, 1, 2, 3, 4] rfl) hw h
          · have h := iff' hc_76 h
            refine lv_aload_n (pc := 29) hx hb dX10_mended_29 rfl (lv_at hl 2 rfl) ?_
            refine gf_X10_55 (pc := 30) C hw 0 rfl rfl dX10_mended_30 ?_
            refine lv_iload_n (pc := 33) hx hb dX10_mended_33 rfl (lv_at hl 1 rfl) ?_
            refine lv_iload (pc := 34) hx hb dX10_mended_34 (lv_at hl 0 rfl) ?_
            obtain ⟨hi_77, h⟩ := og_at h
            obtain ⟨v_places_78, ev_places_78⟩ : ∃ y : Nat → Int32, y = upd v_places_64 (Int32.toNatClampNeg x3_63) x4_62 := ⟨_, rfl⟩
            have h := nm_at ev_places_78 h
            refine x_iast (pc := 36) (wX10_mended cB cI cZ av a_this v_thrown v_size v_begins v_entries v_length v_pressed v_streamFrames v_zeros v_level v_sum v_tail v_isPlayed v_found v_strange v_innerFails v_outerFails v_mostMarks v_unsure v_may v_mocks v_sumThen v_logs v_marked v_places_78 v_powers v_rows v_syndromes v_values v_word) C hw 3 rfl hi_77 (by rw [ev_places_78]; rfl) dX10_mended_36 (fun H locs hw => ?_)
            exact J37_74 v_places_78 ls _ _ (lv_sub hl [0, 1, 2, 3, 4] rfl) hw h
        · have h := ift hc_72 h
          refine lv_goto (pc := 21) (tgt := 40) hx hb dX10_mended_21 (by decide) ?_
          exact J40_70 x3_63 v_places_64 ls _ _ (lv_sub hl [0, 1, 2, 3, 4] rfl) hw h
  exact Lih5_65 FU 0 0 v_places ls _ _ (lv_sub hl [0, 1, 2, 3, 4] rfl) hw h
def wX10_isCheck (cB cI cZ : ClassId) (av : Nat → Nat) : va_W := []
def fX10_isCheck (x0 : Int32) (x1 : Int32) : Int32 := if x0 = 0 then if x1 ≤ (11 : Int32) then 0 else if (16 : Int32) ≤ x1 then 0 else 1 else if x1 ≤ (27 : Int32) then 0 else 1
set_option maxHeartbeats 4000000 in
set_option maxRecDepth 100000 in
theorem ct_X10_isCheck (l : Launch) (D : va_G) (cB cI cZ : ClassId) (tw : Nat) (av : Nat → Nat) (x0 : Int32) (x1 : Int32) (res : Int32) (h : fX10_isCheck x0 x1 = res) : Ctr l yX10_isCheck cX10_isCheck 2 (some .boolean) (rmK 0 0) D (tyL cB cI cZ) tw [.int x0, .int x1] (wX10_isCheck cB cI cZ av) (fun res : Int32 => some (.int res)) (fun res : Int32 => (wX10_isCheck cB cI cZ av)) res := by
  refine ctr_of RX10 (by decide) rfl (Nat.le_of_ble_eq_true rfl) ?_
  intro p e s m below meth c A C hw ls hl
  have hx := C.1
  have hb := C.2.1
  have hl : lv_has ls 2 [(0, .int x0), (1, .int x1)] := hl
  unfold fX10_isCheck at h
  refine lv_iload_n (pc := 0) hx hb dX10_isCheck_0 rfl (lv_at hl 0 rfl) ?_
  refine lv_if_eq (pc := 1) (tgt := 18) hx hb dX10_isCheck_1 (by decide) (fun hc_1 => ?_) (fun hc_1 => ?_)
  · have h := ift hc_1 h
    refine lv_iload_n (pc := 18) hx hb dX10_isCheck_18 rfl (lv_at hl 1 rfl) ?_
    refine lv_bipush (pc := 19) (v := 11) hx hb dX10_isCheck_19 (by decide) ?_
    refine lv_icmp_le (pc := 21) (tgt := 34) hx hb dX10_isCheck_21 (by decide) (fun hc_2 => ?_) (fun hc_2 => ?_)
    · have h := ift hc_2 h
      refine lv_iconst (pc := 34) (v := 0) hx hb dX10_isCheck_34 (by decide) ?_
      exact x_zret (pc := 35) (v := 0) C h rfl rfl hw dX10_isCheck_35
    · have h := iff' hc_2 h
      refine lv_iload_n (pc := 24) hx hb dX10_isCheck_24 rfl (lv_at hl 1 rfl) ?_
      refine lv_bipush (pc := 25) (v := 16) hx hb dX10_isCheck_25 (by decide) ?_
      refine lv_icmp_ge (pc := 27) (tgt := 34) hx hb dX10_isCheck_27 (by decide) (fun hc_3 => ?_) (fun hc_3 => ?_)
      · have h := ift hc_3 h
        refine lv_iconst (pc := 34) (v := 0) hx hb dX10_isCheck_34 (by decide) ?_
        exact x_zret (pc := 35) (v := 0) C h rfl rfl hw dX10_isCheck_35
      · have h := iff' hc_3 h
        refine lv_iconst (pc := 30) (v := 1) hx hb dX10_isCheck_30 (by decide) ?_
        refine lv_goto (pc := 31) (tgt := 35) hx hb dX10_isCheck_31 (by decide) ?_
        exact x_zret (pc := 35) (v := 1) C h rfl rfl hw dX10_isCheck_35
  · have h := iff' hc_1 h
    refine lv_iload_n (pc := 4) hx hb dX10_isCheck_4 rfl (lv_at hl 1 rfl) ?_
    refine lv_bipush (pc := 5) (v := 27) hx hb dX10_isCheck_5 (by decide) ?_
    refine lv_icmp_le (pc := 7) (tgt := 14) hx hb dX10_isCheck_7 (by decide) (fun hc_4 => ?_) (fun hc_4 => ?_)
    · have h := ift hc_4 h
      refine lv_iconst (pc := 14) (v := 0) hx hb dX10_isCheck_14 (by decide) ?_
      refine lv_goto (pc := 15) (tgt := 35) hx hb dX10_isCheck_15 (by decide) ?_
      exact x_zret (pc := 35) (v := 0) C h rfl rfl hw dX10_isCheck_35
    · have h := iff' hc_4 h
      refine lv_iconst (pc := 10) (v := 1) hx hb dX10_isCheck_10 (by decide) ?_
      refine lv_goto (pc := 11) (tgt := 35) hx hb dX10_isCheck_11 (by decide) ?_
      exact x_zret (pc := 35) (v := 1) C h rfl rfl hw dX10_isCheck_35
def wX10_check (cB cI cZ : ClassId) (av : Nat → Nat) (a_this : Nat) (v_thrown : Int32) (v_size : Int32) (v_begins : Int32) (v_entries : Int32) (v_length : Int32) (v_pressed : Int32) (v_streamFrames : Int32) (v_zeros : Int32) (v_level : Int32) (v_sum : Int32) (v_tail : Int32) (v_isPlayed : Int32) (v_found : Int32) (v_strange : Int32) (v_innerFails : Int32) (v_outerFails : Int32) (v_mostMarks : Int32) (v_unsure : Int32) (v_may : Int32) (v_mocks : Int32) (v_sumThen : Int32) (v_logs : Nat → Int32) (v_marked : Nat → Int32) (v_places : Nat → Int32) (v_powers : Nat → Int32) (v_rows : Nat → Int32) (v_syndromes : Nat → Int32) (v_values : Nat → Int32) (v_word : Nat → Int32) : va_W := [oX10 a_this av v_thrown v_size v_begins v_entries v_length v_pressed v_streamFrames v_zeros v_level v_sum v_tail v_isPlayed v_found v_strange v_innerFails v_outerFails v_mostMarks v_unsure v_may v_mocks v_sumThen, ((av 4), .inl (cI, 256, .inl v_logs)), ((av 23), .inl (cZ, 32, .inl v_marked)), ((av 25), .inl (cI, 4, .inl v_places)), ((av 3), .inl (cI, 512, .inl v_powers)), ((av 27), .inl (cI, 20, .inl v_rows)), ((av 24), .inl (cI, 4, .inl v_syndromes)), ((av 26), .inl (cI, 4, .inl v_values)), ((av 22), .inl (cI, 32, .inl v_word))]
def fX10_check_L14 (t_1 : Int32) (j61_5 : (Nat → Int32) → (Nat → Int32) → Option ((Nat → Int32) × (Nat → Int32) × (Nat → Int32) × (Nat → Int32) × (Nat → Int32) × (Nat → Int32))) (x1 : Int32) : Nat → Int32 → (Nat → Int32) → (Nat → Int32) → Option ((Nat → Int32) × (Nat → Int32) × (Nat → Int32) × (Nat → Int32) × (Nat → Int32) × (Nat → Int32))
  | 0, _, _, _ => none
  | F14_16 + 1, x3_13, v_marked_14, v_word_15 => if t_1 ≤ x3_13 then j61_5 v_marked_14 v_word_15 else nt1 (fX10_isCheck x1 x3_13) fun r_18 => og (ixb x3_13 32) (nm (upd v_marked_14 (Int32.toNatClampNeg x3_13) (vp_nar .boolean r_18)) fun v_marked_21 => og (ixb x3_13 32) (jk (fun (t_23 : Int32) => og (ixb x3_13 32) (nm (upd v_word_15 (Int32.toNatClampNeg x3_13) t_23) fun v_word_26 => nm (x3_13 + 1 : Int32) fun x3_27 => fX10_check_L14 t_1 j61_5 x1 F14_16 x3_27 v_marked_21 v_word_26)) fun j54_24 => if (v_marked_21 (Int32.toNatClampNeg x3_13)) = 0 then og (ixb x3_13 32) (j54_24 (v_word_15 (Int32.toNatClampNeg x3_13))) else j54_24 0))
def fX10_check (v_logs : Nat → Int32) (v_marked : Nat → Int32) (v_places : Nat → Int32) (v_powers : Nat → Int32) (v_rows : Nat → Int32) (v_syndromes : Nat → Int32) (v_values : Nat → Int32) (v_word : Nat → Int32) (x1 : Int32) : Option ((Nat → Int32) × (Nat → Int32) × (Nat → Int32) × (Nat → Int32) × (Nat → Int32) × (Nat → Int32)) := jk (fun (t_1 : Int32) => jk (fun (v_marked_3 : Nat → Int32) (v_word_4 : Nat → Int32) => ob6 (fX10_mended v_logs v_marked_3 v_places v_powers v_rows v_syndromes v_values v_word_4 t_1 0) fun r_6 v_places_7 v_rows_8 v_syndromes_9 v_values_10 v_word_11 => some (v_marked_3, v_places_7, v_rows_8, v_syndromes_9, v_values_10, v_word_11)) fun j61_5 => fX10_check_L14 t_1 j61_5 x1 FU 0 v_marked v_word) fun j11_2 => if x1 = 0 then j11_2 28 else j11_2 32
set_option maxHeartbeats 4000000 in
set_option maxRecDepth 100000 in
theorem ct_X10_check (l : Launch) (D : va_G) (cB cI cZ : ClassId) (tw : Nat) (av : Nat → Nat) (a_this : Nat) (v_thrown : Int32) (v_size : Int32) (v_begins : Int32) (v_entries : Int32) (v_length : Int32) (v_pressed : Int32) (v_streamFrames : Int32) (v_zeros : Int32) (v_level : Int32) (v_sum : Int32) (v_tail : Int32) (v_isPlayed : Int32) (v_found : Int32) (v_strange : Int32) (v_innerFails : Int32) (v_outerFails : Int32) (v_mostMarks : Int32) (v_unsure : Int32) (v_may : Int32) (v_mocks : Int32) (v_sumThen : Int32) (v_logs : Nat → Int32) (v_marked : Nat → Int32) (v_places : Nat → Int32) (v_powers : Nat → Int32) (v_rows : Nat → Int32) (v_syndromes : Nat → Int32) (v_values : Nat → Int32) (v_word : Nat → Int32) (x1 : Int32) (res : (Nat → Int32) × (Nat → Int32) × (Nat → Int32) × (Nat → Int32) × (Nat → Int32) × (Nat → Int32)) (h : fX10_check v_logs v_marked v_places v_powers v_rows v_syndromes v_values v_word x1 = some res) : Ctr l yX10_check cX10_check 4 none (rmK 3 79) D (tyL cB cI cZ) tw [.ref a_this, .int x1] (wX10_check cB cI cZ av a_this v_thrown v_size v_begins v_entries v_length v_pressed v_streamFrames v_zeros v_level v_sum v_tail v_isPlayed v_found v_strange v_innerFails v_outerFails v_mostMarks v_unsure v_may v_mocks v_sumThen v_logs v_marked v_places v_powers v_rows v_syndromes v_values v_word) (fun _ : (Nat → Int32) × (Nat → Int32) × (Nat → Int32) × (Nat → Int32) × (Nat → Int32) × (Nat → Int32) => none) (fun res : (Nat → Int32) × (Nat → Int32) × (Nat → Int32) × (Nat → Int32) × (Nat → Int32) × (Nat → Int32) => (wX10_check cB cI cZ av a_this v_thrown v_size v_begins v_entries v_length v_pressed v_streamFrames v_zeros v_level v_sum v_tail v_isPlayed v_found v_strange v_innerFails v_outerFails v_mostMarks v_unsure v_may v_mocks v_sumThen v_logs (res.1) (res.2.1) v_powers (res.2.2.1) (res.2.2.2.1) (res.2.2.2.2.1) (res.2.2.2.2.2))) res := by
  refine ctr_of RX10 (by decide) rfl (Nat.le_of_ble_eq_true rfl) ?_
  intro p e s m below meth c A C hw ls hl
  have hx := C.1
  have hb := C.2.1
  have hl : lv_has ls 4 [(0, .ref a_this), (1, .int x1)] := hl
  unfold fX10_check at h
  refine lv_iload_n (pc := 0) hx hb dX10_check_0 rfl (lv_at hl 1 rfl) ?_
  obtain ⟨j11_2, ej11_2, h⟩ := jk_at h
  have J11_2 : ∀ (t_1 : Int32) (ls : Array Slot) (H : Heap) (locs : List Loc), lv_has ls 4 [(0, .ref a_this), (1, .int x1)] → Wd D A s (wX10_check cB cI cZ av a_this v_thrown v_size v_begins v_entries v_length v_pressed v_streamFrames v_zeros v_level v_sum v_tail v_isPlayed v_found v_strange v_innerFails v_outerFails v_mostMarks v_unsure v_may v_mocks v_sumThen v_logs v_marked v_places v_powers v_rows v_syndromes v_values v_word) H locs → j11_2 t_1 = some res → W p l e (rmK 3 79) s m ([.ref a_this, .int x1] : List Value).toArray below meth c H locs 0 0 (MQ below (QG D (tyL cB cI cZ) A (fun _ : (Nat → Int32) × (Nat → Int32) × (Nat → Int32) × (Nat → Int32) × (Nat → Int32) × (Nat → Int32) => none) (fun res : (Nat → Int32) × (Nat → Int32) × (Nat → Int32) × (Nat → Int32) × (Nat → Int32) × (Nat → Int32) => (wX10_check cB cI cZ av a_this v_thrown v_size v_begins v_entries v_length v_pressed v_streamFrames v_zeros v_level v_sum v_tail v_isPlayed v_found v_strange v_innerFails v_outerFails v_mostMarks v_unsure v_may v_mocks v_sumThen v_logs (res.1) (res.2.1) v_powers (res.2.2.1) (res.2.2.2.1) (res.2.2.2.2.1) (res.2.2.2.2.2))) res) ([.ref a_this, .int x1] : List Value).toArray s 0 0 A) (F0 m 11 ls [.int t_1]) := by
    intro t_1 ls H locs hl hw h
    have h := k1_at ej11_2 h
    refine lv_istore_n (pc := 11) (lv' := [(2, .int t_1), (0, .ref a_this), (1, .int x1)]) hx hb dX10_check_11 rfl hl (by decide) rfl (fun ls hl => ?_)
    refine lv_iconst (pc := 12) (v := 0) hx hb dX10_check_12 (by decide) ?_
    refine lv_istore_n (pc := 13) (lv' := [(3, .int 0), (2, .int t_1), (0, .ref a_this), (1, .int x1)]) hx hb dX10_check_13 rfl hl (by decide) rfl (fun ls hl => ?_)
    obtain ⟨j61_5, ej61_5, h⟩ := jk_at h
    have J61_5 : ∀ (v_marked_3 : Nat → Int32) (v_word_4 : Nat → Int32) (ls : Array Slot) (H : Heap) (locs : List Loc), lv_has ls 4 [(2, .int t_1), (0, .ref a_this)] → Wd D A s (wX10_check cB cI cZ av a_this v_thrown v_size v_begins v_entries v_length v_pressed v_streamFrames v_zeros v_level v_sum v_tail v_isPlayed v_found v_strange v_innerFails v_outerFails v_mostMarks v_unsure v_may v_mocks v_sumThen v_logs v_marked_3 v_places v_powers v_rows v_syndromes v_values v_word_4) H locs → j61_5 v_marked_3 v_word_4 = some res → W p l e (rmK 3 79) s m ([.ref a_this, .int x1] : List Value).toArray below meth c H locs 0 0 (MQ below (QG D (tyL cB cI cZ) A (fun _ : (Nat → Int32) × (Nat → Int32) × (Nat → Int32) × (Nat → Int32) × (Nat → Int32) × (Nat → Int32) => none) (fun res : (Nat → Int32) × (Nat → Int32) × (Nat → Int32) × (Nat → Int32) × (Nat → Int32) × (Nat → Int32) => (wX10_check cB cI cZ av a_this v_thrown v_size v_begins v_entries v_length v_pressed v_streamFrames v_zeros v_level v_sum v_tail v_isPlayed v_found v_strange v_innerFails v_outerFails v_mostMarks v_unsure v_may v_mocks v_sumThen v_logs (res.1) (res.2.1) v_powers (res.2.2.1) (res.2.2.2.1) (res.2.2.2.2.1) (res.2.2.2.2.2))) res) ([.ref a_this, .int x1] : List Value).toArray s 0 0 A) (F0 m 61 ls []) := by
      intro v_marked_3 v_word_4 ls H locs hl hw h
      have h := k2_at ej61_5 h
      refine lv_aload_n (pc := 61) hx hb dX10_check_61 rfl (lv_at hl 1 rfl) ?_
      refine lv_iload_n (pc := 62) hx hb dX10_check_62 rfl (lv_at hl 0 rfl) ?_
      refine lv_iconst (pc := 63) (v := 0) hx hb dX10_check_63 (by decide) ?_
      obtain ⟨r_6, v_places_7, v_rows_8, v_syndromes_9, v_values_10, v_word_11, hq_12, h⟩ := ob6_at h
      refine x_callV (pc := 64) (rest := []) (stk := [.int r_6]) (wX10_check cB cI cZ av a_this v_thrown v_size v_begins v_entries v_length v_pressed v_streamFrames v_zeros v_level v_sum v_tail v_isPlayed v_found v_strange v_innerFails v_outerFails v_mostMarks v_unsure v_may v_mocks v_sumThen v_logs v_marked_3 v_places_7 v_powers v_rows_8 v_syndromes_9 v_values_10 v_word_11) C hw (ct_X10_mended l D cB cI cZ tw av a_this v_thrown v_size v_begins v_entries v_length v_pressed v_streamFrames v_zeros v_level v_sum v_tail v_isPlayed v_found v_strange v_innerFails v_outerFails v_mostMarks v_unsure v_may v_mocks v_sumThen v_logs v_marked_3 v_places v_powers v_rows v_syndromes v_values v_word_4 t_1 0 (r_6, v_places_7, v_rows_8, v_syndromes_9, v_values_10, v_word_11) hq_12) cal_X10_mended tw_1232 (q0 := 0) rfl rfl [0, 1, 2, 3, 4, 5, 6, 7, 8] [] 9 [] rfl rfl rfl rfl rfl rfl rfl rfl rfl rfl rfl (Nat.le_of_ble_eq_true rfl) hl.1 ⟨Nat.le_of_ble_eq_true rfl, Nat.le_of_ble_eq_true rfl⟩ ⟨Nat.zero_le _, Nat.zero_le _⟩ dX10_check_64 (fun H locs hw => ?_)
      refine lv_istore_n (pc := 67) (lv' := [(3, .int r_6), (2, .int t_1), (0, .ref a_this)]) hx hb dX10_check_67 rfl hl (by decide) rfl (fun ls hl => ?_)
      exact x_vret (pc := 68) (v := (v_marked_3, v_places_7, v_rows_8, v_syndromes_9, v_values_10, v_word_11)) C (Option.some.inj h) rfl hw dX10_check_68
    have Lih14_16 : ∀ (F : Nat) (x3_13 : Int32) (v_marked_14 : Nat → Int32) (v_word_15 : Nat → Int32) (ls : Array Slot) (H : Heap) (locs : List Loc), lv_has ls 4 [(3, .int x3_13), (2, .int t_1), (0, .ref a_this), (1, .int x1)] → Wd D A s (wX10_check cB cI cZ av a_this v_thrown v_size v_begins v_entries v_length v_pressed v_streamFrames v_zeros v_level v_sum v_tail v_isPlayed v_found v_strange v_innerFails v_outerFails v_mostMarks v_unsure v_may v_mocks v_sumThen v_logs v_marked_14 v_places v_powers v_rows v_syndromes v_values v_word_15) H locs → fX10_check_L14 t_1 j61_5 x1 F x3_13 v_marked_14 v_word_15 = some res → W p l e (rmK 3 79) s m ([.ref a_this, .int x1] : List Value).toArray below meth c H locs 0 0 (MQ below (QG D (tyL cB cI cZ) A (fun _ : (Nat → Int32) × (Nat → Int32) × (Nat → Int32) × (Nat → Int32) × (Nat → Int32) × (Nat → Int32) => none) (fun res : (Nat → Int32) × (Nat → Int32) × (Nat → Int32) × (Nat → Int32) × (Nat → Int32) × (Nat → Int32) => (wX10_check cB cI cZ av a_this v_thrown v_size v_begins v_entries v_length v_pressed v_streamFrames v_zeros v_level v_sum v_tail v_isPlayed v_found v_strange v_innerFails v_outerFails v_mostMarks v_unsure v_may v_mocks v_sumThen v_logs (res.1) (res.2.1) v_powers (res.2.2.1) (res.2.2.2.1) (res.2.2.2.2.1) (res.2.2.2.2.2))) res) ([.ref a_this, .int x1] : List Value).toArray s 0 0 A) (F0 m 14 ls []) := by
      intro F
      induction F with
      | zero => intro x3_13 v_marked_14 v_word_15 ls H locs hl hw h; rw [fX10_check_L14.eq_1] at h; cases h
      | succ F14_16 ih14_16 =>
        intro x3_13 v_marked_14 v_word_15 ls H locs hl hw h
        rw [fX10_check_L14.eq_2] at h
        refine lv_iload_n (pc := 14) hx hb dX10_check_14 rfl (lv_at hl 0 rfl) ?_
        refine lv_iload_n (pc := 15) hx hb dX10_check_15 rfl (lv_at hl 1 rfl) ?_
        refine lv_icmp_ge (pc := 16) (tgt := 61) hx hb dX10_check_16 (by decide) (fun hc_17 => ?_) (fun hc_17 => ?_)
        · have h := ift hc_17 h
          exact J61_5 v_marked_14 v_word_15 ls _ _ (lv_sub hl [1, 2] rfl) hw h
        · have h := iff' hc_17 h
          refine lv_aload_n (pc := 19) hx hb dX10_check_19 rfl (lv_at hl 2 rfl) ?_
          refine gf_X10_48 (pc := 20) C hw 0 rfl rfl dX10_check_20 ?_
          refine lv_iload_n (pc := 23) hx hb dX10_check_23 rfl (lv_at hl 0 rfl) ?_
          refine lv_iload_n (pc := 24) hx hb dX10_check_24 rfl (lv_at hl 3 rfl) ?_
          refine lv_iload_n (pc := 25) hx hb dX10_check_25 rfl (lv_at hl 0 rfl) ?_
          obtain ⟨r_18, hq_19, h⟩ := nt1_at h
          refine x_callS (pc := 26) (rest := [.int x3_13, .ref (av 23)]) (stk := [.int r_18, .int x3_13, .ref (av 23)]) (wX10_check cB cI cZ av a_this v_thrown v_size v_begins v_entries v_length v_pressed v_streamFrames v_zeros v_level v_sum v_tail v_isPlayed v_found v_strange v_innerFails v_outerFails v_mostMarks v_unsure v_may v_mocks v_sumThen v_logs v_marked_14 v_places v_powers v_rows v_syndromes v_values v_word_15) C hw (ct_X10_isCheck l D cB cI cZ tw av x1 x3_13 r_18 hq_19.symm) cal_X10_isCheck tw_1218 [] [0, 1, 2, 3, 4, 5, 6, 7, 8] 9 [oX10 a_this av v_thrown v_size v_begins v_entries v_length v_pressed v_streamFrames v_zeros v_level v_sum v_tail v_isPlayed v_found v_strange v_innerFails v_outerFails v_mostMarks v_unsure v_may v_mocks v_sumThen, ((av 4), .inl (cI, 256, .inl v_logs)), ((av 23), .inl (cZ, 32, .inl v_marked_14)), ((av 25), .inl (cI, 4, .inl v_places)), ((av 3), .inl (cI, 512, .inl v_powers)), ((av 27), .inl (cI, 20, .inl v_rows)), ((av 24), .inl (cI, 4, .inl v_syndromes)), ((av 26), .inl (cI, 4, .inl v_values)), ((av 22), .inl (cI, 32, .inl v_word_15))] rfl rfl rfl rfl rfl rfl rfl rfl rfl rfl rfl (Nat.le_of_ble_eq_true rfl) hl.1 ⟨Nat.le_of_ble_eq_true rfl, Nat.le_of_ble_eq_true rfl⟩ ⟨Nat.zero_le _, Nat.zero_le _⟩ dX10_check_26 (fun H locs hw => ?_)
          obtain ⟨hi_20, h⟩ := og_at h
          obtain ⟨v_marked_21, ev_marked_21⟩ : ∃ y : Nat → Int32, y = upd v_marked_14 (Int32.toNatClampNeg x3_13) (vp_nar .boolean r_18) := ⟨_, rfl⟩
          have h := nm_at ev_marked_21 h
          refine x_zast (pc := 29) (wX10_check cB cI cZ av a_this v_thrown v_size v_begins v_entries v_length v_pressed v_streamFrames v_zeros v_level v_sum v_tail v_isPlayed v_found v_strange v_innerFails v_outerFails v_mostMarks v_unsure v_may v_mocks v_sumThen v_logs v_marked_21 v_places v_powers v_rows v_syndromes v_values v_word_15) C hw 2 rfl hi_20 (by rw [ev_marked_21]; rfl) dX10_check_29 (fun H locs hw => ?_)
          refine lv_aload_n (pc := 30) hx hb dX10_check_30 rfl (lv_at hl 2 rfl) ?_
          refine gf_X10_45 (pc := 31) C hw 0 rfl rfl dX10_check_31 ?_
          refine lv_iload_n (pc := 34) hx hb dX10_check_34 rfl (lv_at hl 0 rfl) ?_
          refine lv_aload_n (pc := 35) hx hb dX10_check_35 rfl (lv_at hl 2 rfl) ?_
          refine gf_X10_48 (pc := 36) C hw 0 rfl rfl dX10_check_36 ?_
          refine lv_iload_n (pc := 39) hx hb dX10_check_39 rfl (lv_at hl 0 rfl) ?_
          obtain ⟨hi_22, h⟩ := og_at h
          refine x_zald (pc := 40) C hw 2 rfl hi_22 dX10_check_40 ?_
          obtain ⟨j54_24, ej54_24, h⟩ := jk_at h
          have J54_24 : ∀ (t_23 : Int32) (ls : Array Slot) (H : Heap) (locs : List Loc), lv_has ls 4 [(3, .int x3_13), (2, .int t_1), (0, .ref a_this), (1, .int x1)] → Wd D A s (wX10_check cB cI cZ av a_this v_thrown v_size v_begins v_entries v_length v_pressed v_streamFrames v_zeros v_level v_sum v_tail v_isPlayed v_found v_strange v_innerFails v_outerFails v_mostMarks v_unsure v_may v_mocks v_sumThen v_logs v_marked_21 v_places v_powers v_rows v_syndromes v_values v_word_15) H locs → j54_24 t_23 = some res → W p l e (rmK 3 79) s m ([.ref a_this, .int x1] : List Value).toArray below meth c H locs 0 0 (MQ below (QG D (tyL cB cI cZ) A (fun _ : (Nat → Int32) × (Nat → Int32) × (Nat → Int32) × (Nat → Int32) × (Nat → Int32) × (Nat → Int32) => none) (fun res : (Nat → Int32) × (Nat → Int32) × (Nat → Int32) × (Nat → Int32) × (Nat → Int32) × (Nat → Int32) => (wX10_check cB cI cZ av a_this v_thrown v_size v_begins v_entries v_length v_pressed v_streamFrames v_zeros v_level v_sum v_tail v_isPlayed v_found v_strange v_innerFails v_outerFails v_mostMarks v_unsure v_may v_mocks v_sumThen v_logs (res.1) (res.2.1) v_powers (res.2.2.1) (res.2.2.2.1) (res.2.2.2.2.1) (res.2.2.2.2.2))) res) ([.ref a_this, .int x1] : List Value).toArray s 0 0 A) (F0 m 54 ls [.int t_23, .int x3_13, .ref (av 22)]) := by
            intro t_23 ls H locs hl hw h
            have h := k1_at ej54_24 h
            obtain ⟨hi_25, h⟩ := og_at h
            obtain ⟨v_word_26, ev_word_26⟩ : ∃ y : Nat → Int32, y = upd v_word_15 (Int32.toNatClampNeg x3_13) t_23 := ⟨_, rfl⟩
            have h := nm_at ev_word_26 h
            refine x_iast (pc := 54) (wX10_check cB cI cZ av a_this v_thrown v_size v_begins v_entries v_length v_pressed v_streamFrames v_zeros v_level v_sum v_tail v_isPlayed v_found v_strange v_innerFails v_outerFails v_mostMarks v_unsure v_may v_mocks v_sumThen v_logs v_marked_21 v_places v_powers v_rows v_syndromes v_values v_word_26) C hw 8 rfl hi_25 (by rw [ev_word_26]; rfl) dX10_check_54 (fun H locs hw => ?_)
            obtain ⟨x3_27, ex3_27⟩ : ∃ y : Int32, y = x3_13 + 1 := ⟨_, rfl⟩
            have h := nm_at ex3_27 h
            refine lv_iinc (pc := 55) (v := x3_27) (lv' := [(3, .int x3_27), (2, .int t_1), (0, .ref a_this), (1, .int x1)]) hx hb dX10_check_55 hl (k := 0) rfl (by rw [ex3_27]; rfl) (by decide) rfl (fun ls hl => ?_)
            refine lv_goto (pc := 58) (tgt := 14) hx hb dX10_check_58 (by decide) ?_
            exact ih14_16 x3_27 v_marked_21 v_word_26 ls _ _ (lv_sub hl [0, 1, 2, 3] rfl) hw h
          refine lv_if_eq (pc := 41) (tgt := 48) hx hb dX10_check_41 (by decide) (fun hc_28 => ?_) (fun hc_28 => ?_)
          · have h := ift hc_28 h
            refine lv_aload_n (pc := 48) hx hb dX10_check_48 rfl (lv_at hl 2 rfl) ?_
            refine gf_X10_45 (pc := 49) C hw 0 rfl rfl dX10_check_49 ?_
            refine lv_iload_n (pc := 52) hx hb dX10_check_52 rfl (lv_at hl 0 rfl) ?_
            obtain ⟨hi_29, h⟩ := og_at h
            refine x_iald (pc := 53) C hw 8 rfl hi_29 dX10_check_53 ?_
            exact J54_24 (v_word_15 (Int32.toNatClampNeg x3_13)) ls _ _ (lv_sub hl [0, 1, 2, 3] rfl) hw h
          · have h := iff' hc_28 h
            refine lv_iconst (pc := 44) (v := 0) hx hb dX10_check_44 (by decide) ?_
            refine lv_goto (pc := 45) (tgt := 54) hx hb dX10_check_45 (by decide) ?_
            exact J54_24 0 ls _ _ (lv_sub hl [0, 1, 2, 3] rfl) hw h
    exact Lih14_16 FU 0 v_marked v_word ls _ _ (lv_sub hl [0, 1, 2, 3] rfl) hw h
  refine lv_if_eq (pc := 1) (tgt := 9) hx hb dX10_check_1 (by decide) (fun hc_30 => ?_) (fun hc_30 => ?_)
  · have h := ift hc_30 h
    refine lv_bipush (pc := 9) (v := 28) hx hb dX10_check_9 (by decide) ?_
    exact J11_2 28 ls _ _ (lv_sub hl [0, 1] rfl) hw h
  · have h := iff' hc_30 h
    refine lv_bipush (pc := 4) (v := 32) hx hb dX10_check_4 (by decide) ?_
    refine lv_goto (pc := 6) (tgt := 11) hx hb dX10_check_6 (by decide) ?_
    exact J11_2 32 ls _ _ (lv_sub hl [0, 1] rfl) hw h
def wX10_feed (cB cI cZ : ClassId) (av : Nat → Nat) (a_this : Nat) (v_thrown : Int32) (v_size : Int32) (v_begins : Int32) (v_entries : Int32) (v_length : Int32) (v_pressed : Int32) (v_streamFrames : Int32) (v_zeros : Int32) (v_level : Int32) (v_sum : Int32) (v_tail : Int32) (v_isPlayed : Int32) (v_found : Int32) (v_strange : Int32) (v_innerFails : Int32) (v_outerFails : Int32) (v_mostMarks : Int32) (v_unsure : Int32) (v_may : Int32) (v_mocks : Int32) (v_sumThen : Int32) (v_stream : Nat → Int32) : va_W := [oX10 a_this av v_thrown v_size v_begins v_entries v_length v_pressed v_streamFrames v_zeros v_level v_sum v_tail v_isPlayed v_found v_strange v_innerFails v_outerFails v_mostMarks v_unsure v_may v_mocks v_sumThen, ((av 5), .inl (cB, 11712, .inl v_stream))]
def fX10_feed_L36 (x1 : Int64) : Nat → Int32 → Int32 → (Nat → Int32) → Option (Int32 × Int32 × Int32 × (Nat → Int32))
  | 0, _, _, _ => none
  | F36_9 + 1, x4_6, v_size_7, v_stream_8 => if x4_6 < 0 then some (v_size_7, v_size_7, 0, v_stream_8) else og (ixb v_size_7 11712) (nm (upd v_stream_8 (Int32.toNatClampNeg v_size_7) (vp_nar .byte (Int8.toInt32 (Int32.toInt8 (Int64.toInt32 (x1 >>> (Int32.toInt64 ((8 : Int32) * x4_6) &&& 63) : Int64)))))) fun v_stream_12 => nm ((v_size_7 + (1 : Int32)) : Int32) fun v_size_13 => nm (x4_6 + (-1) : Int32) fun x4_14 => fX10_feed_L36 x1 F36_9 x4_14 v_size_13 v_stream_12)
def fX10_feed (v_size : Int32) (v_thrown : Int32) (v_stream : Nat → Int32) (x1 : Int64) (x3 : Int32) : Option (Int32 × Int32 × Int32 × (Nat → Int32)) := nt1 (fX10_in (Int32.toInt64 x3) 1 8) fun r_1 => if r_1 = 0 then some ((-1), v_size, 0, v_stream) else if (v_size + x3) ≤ (11712 : Int32) then nm ((x3 - (1 : Int32)) : Int32) fun x4_5 => fX10_feed_L36 x1 FU x4_5 v_size v_stream else some ((-1), v_size, 0, v_stream)
set_option maxHeartbeats 4000000 in
set_option maxRecDepth 100000 in
theorem ct_X10_feed (l : Launch) (D : va_G) (cB cI cZ : ClassId) (tw : Nat) (av : Nat → Nat) (a_this : Nat) (v_thrown : Int32) (v_size : Int32) (v_begins : Int32) (v_entries : Int32) (v_length : Int32) (v_pressed : Int32) (v_streamFrames : Int32) (v_zeros : Int32) (v_level : Int32) (v_sum : Int32) (v_tail : Int32) (v_isPlayed : Int32) (v_found : Int32) (v_strange : Int32) (v_innerFails : Int32) (v_outerFails : Int32) (v_mostMarks : Int32) (v_unsure : Int32) (v_may : Int32) (v_mocks : Int32) (v_sumThen : Int32) (v_stream : Nat → Int32) (x1 : Int64) (x3 : Int32) (res : Int32 × Int32 × Int32 × (Nat → Int32)) (h : fX10_feed v_size v_thrown v_stream x1 x3 = some res) : Ctr l yX10_feed cX10_feed 5 (some .int) (rmK 1 25) D (tyL cB cI cZ) tw [.ref a_this, .long x1, .int x3] (wX10_feed cB cI cZ av a_this v_thrown v_size v_begins v_entries v_length v_pressed v_streamFrames v_zeros v_level v_sum v_tail v_isPlayed v_found v_strange v_innerFails v_outerFails v_mostMarks v_unsure v_may v_mocks v_sumThen v_stream) (fun res : Int32 × Int32 × Int32 × (Nat → Int32) => some (.int res.1)) (fun res : Int32 × Int32 × Int32 × (Nat → Int32) => (wX10_feed cB cI cZ av a_this (res.2.2.1) (res.2.1) v_begins v_entries v_length v_pressed v_streamFrames v_zeros v_level v_sum v_tail v_isPlayed v_found v_strange v_innerFails v_outerFails v_mostMarks v_unsure v_may v_mocks v_sumThen (res.2.2.2))) res := by
  refine ctr_of RX10 (by decide) rfl (Nat.le_of_ble_eq_true rfl) ?_
  intro p e s m below meth c A C hw ls hl
  have hx := C.1
  have hb := C.2.1
  have hl : lv_has ls 5 [(0, .ref a_this), (1, .long x1), (3, .int x3)] := hl
  unfold fX10_feed at h
  refine lv_aload_n (pc := 0) hx hb dX10_feed_0 rfl (lv_at hl 0 rfl) ?_
  refine lv_iconst (pc := 1) (v := 0) hx hb dX10_feed_1 (by decide) ?_
  refine pf_X10_100 (pc := 2) (wX10_feed cB cI cZ av a_this 0 v_size v_begins v_entries v_length v_pressed v_streamFrames v_zeros v_level v_sum v_tail v_isPlayed v_found v_strange v_innerFails v_outerFails v_mostMarks v_unsure v_may v_mocks v_sumThen v_stream) C hw 0 rfl rfl rfl rfl (Nat.le_of_ble_eq_true rfl) dX10_feed_2 (fun H locs hw => ?_)
  refine lv_iload_n (pc := 5) hx hb dX10_feed_5 rfl (lv_at hl 2 rfl) ?_
  refine lv_i2l (pc := 6) hx hb dX10_feed_6 rfl ?_
  refine lv_lconst (pc := 7) (v := 1) hx hb dX10_feed_7 (by decide) ?_
  refine lv_ldc2 (pc := 8) (own := RX10) (v := 8) hx hb C.2.2.2.1 (C.2.2.2.2.1 _ tw_1175) dX10_feed_8 ?_
  obtain ⟨r_1, hq_2, h⟩ := nt1_at h
  refine x_callS (pc := 11) (rest := []) (stk := [.int r_1]) (wX10_feed cB cI cZ av a_this 0 v_size v_begins v_entries v_length v_pressed v_streamFrames v_zeros v_level v_sum v_tail v_isPlayed v_found v_strange v_innerFails v_outerFails v_mostMarks v_unsure v_may v_mocks v_sumThen v_stream) C hw (ct_X10_in l D cB cI cZ tw av (Int32.toInt64 x3) 1 8 r_1 hq_2.symm) cal_X10_in tw_1176 [] [0, 1] 2 [oX10 a_this av 0 v_size v_begins v_entries v_length v_pressed v_streamFrames v_zeros v_level v_sum v_tail v_isPlayed v_found v_strange v_innerFails v_outerFails v_mostMarks v_unsure v_may v_mocks v_sumThen, ((av 5), .inl (cB, 11712, .inl v_stream))] rfl rfl rfl rfl rfl rfl rfl rfl rfl rfl rfl (Nat.le_of_ble_eq_true rfl) hl.1 ⟨Nat.le_of_ble_eq_true rfl, Nat.le_of_ble_eq_true rfl⟩ ⟨Nat.zero_le _, Nat.zero_le _⟩ dX10_feed_11 (fun H locs hw => ?_)
  refine lv_if_eq (pc := 14) (tgt := 29) hx hb dX10_feed_14 (by decide) (fun hc_3 => ?_) (fun hc_3 => ?_)
  · have h := ift hc_3 h
    refine lv_iconst (pc := 29) (v := (-1)) hx hb dX10_feed_29 (by decide) ?_
    exact x_iret (pc := 30) (v := ((-1), v_size, 0, v_stream)) C (Option.some.inj h) rfl hw dX10_feed_30
  · have h := iff' hc_3 h
    refine lv_aload_n (pc := 17) hx hb dX10_feed_17 rfl (lv_at hl 0 rfl) ?_
    refine gf_X10_148 (pc := 18) C hw 0 rfl rfl dX10_feed_18 ?_
    refine lv_iload_n (pc := 21) hx hb dX10_feed_21 rfl (lv_at hl 2 rfl) ?_
    refine lv_iadd (pc := 22) hx hb dX10_feed_22 ?_
    refine lv_sipush (pc := 23) (v := 11712) hx hb dX10_feed_23 (by decide) ?_
    refine lv_icmp_le (pc := 26) (tgt := 31) hx hb dX10_feed_26 (by decide) (fun hc_4 => ?_) (fun hc_4 => ?_)
    · have h := ift hc_4 h
      refine lv_iload_n (pc := 31) hx hb dX10_feed_31 rfl (lv_at hl 2 rfl) ?_
      refine lv_iconst (pc := 32) (v := 1) hx hb dX10_feed_32 (by decide) ?_
      refine lv_isub (pc := 33) hx hb dX10_feed_33 ?_
      refine lv_topi (pc := 34) (fun x4_5 ex4_5 => ?_)
      have h := nm_at ex4_5 h
      refine lv_istore (pc := 34) (lv' := [(4, .int x4_5), (0, .ref a_this), (1, .long x1), (3, .int x3)]) hx hb dX10_feed_34 hl (by decide) rfl (fun ls hl => ?_)
      have Lih36_9 : ∀ (F : Nat) (x4_6 : Int32) (v_size_7 : Int32) (v_stream_8 : Nat → Int32) (ls : Array Slot) (H : Heap) (locs : List Loc), lv_has ls 5 [(4, .int x4_6), (0, .ref a_this), (1, .long x1)] → Wd D A s (wX10_feed cB cI cZ av a_this 0 v_size_7 v_begins v_entries v_length v_pressed v_streamFrames v_zeros v_level v_sum v_tail v_isPlayed v_found v_strange v_innerFails v_outerFails v_mostMarks v_unsure v_may v_mocks v_sumThen v_stream_8) H locs → fX10_feed_L36 x1 F x4_6 v_size_7 v_stream_8 = some res → W p l e (rmK 1 25) s m ([.ref a_this, .long x1, .int x3] : List Value).toArray below meth c H locs 0 0 (MQ below (QG D (tyL cB cI cZ) A (fun res : Int32 × Int32 × Int32 × (Nat → Int32) => some (.int res.1)) (fun res : Int32 × Int32 × Int32 × (Nat → Int32) => (wX10_feed cB cI cZ av a_this (res.2.2.1) (res.2.1) v_begins v_entries v_length v_pressed v_streamFrames v_zeros v_level v_sum v_tail v_isPlayed v_found v_strange v_innerFails v_outerFails v_mostMarks v_unsure v_may v_mocks v_sumThen (res.2.2.2))) res) ([.ref a_this, .long x1, .int x3] : List Value).toArray s 0 0 A) (F0 m 36 ls []) := by
        intro F
        induction F with
        | zero => intro x4_6 v_size_7 v_stream_8 ls H locs hl hw h; rw [fX10_feed_L36.eq_1] at h; cases h
        | succ F36_9 ih36_9 =>
          intro x4_6 v_size_7 v_stream_8 ls H locs hl hw h
          rw [fX10_feed_L36.eq_2] at h
          refine lv_iload (pc := 36) hx hb dX10_feed_36 (lv_at hl 0 rfl) ?_
          refine lv_if_lt (pc := 38) (tgt := 75) hx hb dX10_feed_38 (by decide) (fun hc_10 => ?_) (fun hc_10 => ?_)
          · have h := ift hc_10 h
            refine lv_aload_n (pc := 75) hx hb dX10_feed_75 rfl (lv_at hl 1 rfl) ?_
            refine gf_X10_148 (pc := 76) C hw 0 rfl rfl dX10_feed_76 ?_
            exact x_iret (pc := 79) (v := (v_size_7, v_size_7, 0, v_stream_8)) C (Option.some.inj h) rfl hw dX10_feed_79
          · have h := iff' hc_10 h
            refine lv_aload_n (pc := 41) hx hb dX10_feed_41 rfl (lv_at hl 1 rfl) ?_
            refine gf_X10_22 (pc := 42) C hw 0 rfl rfl dX10_feed_42 ?_
            refine lv_aload_n (pc := 45) hx hb dX10_feed_45 rfl (lv_at hl 1 rfl) ?_
            refine gf_X10_148 (pc := 46) C hw 0 rfl rfl dX10_feed_46 ?_
            refine lv_lload_n (pc := 49) hx hb dX10_feed_49 rfl (lv_at hl 2 rfl) ?_
            refine lv_bipush (pc := 50) (v := 8) hx hb dX10_feed_50 (by decide) ?_
            refine lv_iload (pc := 52) hx hb dX10_feed_52 (lv_at hl 0 rfl) ?_
            refine lv_imul (pc := 54) hx hb dX10_feed_54 ?_
            refine lv_lshr (pc := 55) hx hb dX10_feed_55 rfl ?_
            refine lv_l2i (pc := 56) hx hb dX10_feed_56 rfl ?_
            refine lv_i2b (pc := 57) hx hb dX10_feed_57 rfl ?_
            obtain ⟨hi_11, h⟩ := og_at h
            obtain ⟨v_stream_12, ev_stream_12⟩ : ∃ y : Nat → Int32, y = upd v_stream_8 (Int32.toNatClampNeg v_size_7) (vp_nar .byte (Int8.toInt32 (Int32.toInt8 (Int64.toInt32 (x1 >>> (Int32.toInt64 ((8 : Int32) * x4_6) &&& 63) : Int64))))) := ⟨_, rfl⟩
            have h := nm_at ev_stream_12 h
            refine x_bast (pc := 58) (wX10_feed cB cI cZ av a_this 0 v_size_7 v_begins v_entries v_length v_pressed v_streamFrames v_zeros v_level v_sum v_tail v_isPlayed v_found v_strange v_innerFails v_outerFails v_mostMarks v_unsure v_may v_mocks v_sumThen v_stream_12) C hw 1 rfl hi_11 (by rw [ev_stream_12]; rfl) dX10_feed_58 (fun H locs hw => ?_)
            refine lv_aload_n (pc := 59) hx hb dX10_feed_59 rfl (lv_at hl 1 rfl) ?_
            refine lv_dup (pc := 60) hx hb dX10_feed_60 rfl ?_
            refine gf_X10_148 (pc := 61) C hw 0 rfl rfl dX10_feed_61 ?_
            refine lv_iconst (pc := 64) (v := 1) hx hb dX10_feed_64 (by decide) ?_
            refine lv_iadd (pc := 65) hx hb dX10_feed_65 ?_
            refine lv_topi (pc := 66) (fun v_size_13 ev_size_13 => ?_)
            have h := nm_at ev_size_13 h
            refine pf_X10_148 (pc := 66) (wX10_feed cB cI cZ av a_this 0 v_size_13 v_begins v_entries v_length v_pressed v_streamFrames v_zeros v_level v_sum v_tail v_isPlayed v_found v_strange v_innerFails v_outerFails v_mostMarks v_unsure v_may v_mocks v_sumThen v_stream_12) C hw 0 rfl rfl rfl rfl (Nat.le_of_ble_eq_true rfl) dX10_feed_66 (fun H locs hw => ?_)
            obtain ⟨x4_14, ex4_14⟩ : ∃ y : Int32, y = x4_6 + (-1) := ⟨_, rfl⟩
            have h := nm_at ex4_14 h
            refine lv_iinc (pc := 69) (v := x4_14) (lv' := [(4, .int x4_14), (0, .ref a_this), (1, .long x1)]) hx hb dX10_feed_69 hl (k := 0) rfl (by rw [ex4_14]; rfl) (by decide) rfl (fun ls hl => ?_)
            refine lv_goto (pc := 72) (tgt := 36) hx hb dX10_feed_72 (by decide) ?_
            exact ih36_9 x4_14 v_size_13 v_stream_12 ls _ _ (lv_sub hl [0, 1, 2] rfl) hw h
      exact Lih36_9 FU x4_5 v_size v_stream ls _ _ (lv_sub hl [0, 1, 2] rfl) hw h
    · have h := iff' hc_4 h
      refine lv_iconst (pc := 29) (v := (-1)) hx hb dX10_feed_29 (by decide) ?_
      exact x_iret (pc := 30) (v := ((-1), v_size, 0, v_stream)) C (Option.some.inj h) rfl hw dX10_feed_30
def wX10_fill (cB cI cZ : ClassId) (av : Nat → Nat) (a_this : Nat) (v_thrown : Int32) (v_size : Int32) (v_begins : Int32) (v_entries : Int32) (v_length : Int32) (v_pressed : Int32) (v_streamFrames : Int32) (v_zeros : Int32) (v_level : Int32) (v_sum : Int32) (v_tail : Int32) (v_isPlayed : Int32) (v_found : Int32) (v_strange : Int32) (v_innerFails : Int32) (v_outerFails : Int32) (v_mostMarks : Int32) (v_unsure : Int32) (v_may : Int32) (v_mocks : Int32) (v_sumThen : Int32) (v_stream : Nat → Int32) : va_W := [oX10 a_this av v_thrown v_size v_begins v_entries v_length v_pressed v_streamFrames v_zeros v_level v_sum v_tail v_isPlayed v_found v_strange v_innerFails v_outerFails v_mostMarks v_unsure v_may v_mocks v_sumThen, ((av 5), .inl (cB, 11712, .inl v_stream))]
def fX10_fill_L31 (x1 : Int32) : Nat → Int32 → Int32 → Int32 → (Nat → Int32) → Option (Int32 × Int32 × Int32 × (Nat → Int32))
  | 0, _, _, _, _ => none
  | F31_7 + 1, x4_3, x3_4, v_size_5, v_stream_6 => if x1 ≤ x4_3 then some (v_size_5, v_size_5, 0, v_stream_6) else nm (((x3_4 * (1664525 : Int32)) + (1013904223 : Int32)) : Int32) fun x3_9 => og (ixb v_size_5 11712) (nm (upd v_stream_6 (Int32.toNatClampNeg v_size_5) (vp_nar .byte (Int8.toInt32 (Int32.toInt8 (UInt32.toInt32 (Int32.toUInt32 x3_9 >>> (Int32.toUInt32 24 &&& Int32.toUInt32 31))))))) fun v_stream_11 => nm ((v_size_5 + (1 : Int32)) : Int32) fun v_size_12 => nm (x4_3 + 1 : Int32) fun x4_13 => fX10_fill_L31 x1 F31_7 x4_13 x3_9 v_size_12 v_stream_11)
def fX10_fill (v_size : Int32) (v_thrown : Int32) (v_stream : Nat → Int32) (x1 : Int32) (x2 : Int32) : Option (Int32 × Int32 × Int32 × (Nat → Int32)) := if x1 < 0 then some ((-1), v_size, 0, v_stream) else if (lg_cmp ((Int32.toInt64 v_size) + (Int32.toInt64 x1)) 11712) ≤ 0 then fX10_fill_L31 x1 FU 0 x2 v_size v_stream else some ((-1), v_size, 0, v_stream)
set_option maxHeartbeats 4000000 in
set_option maxRecDepth 100000 in
theorem ct_X10_fill (l : Launch) (D : va_G) (cB cI cZ : ClassId) (tw : Nat) (av : Nat → Nat) (a_this : Nat) (v_thrown : Int32) (v_size : Int32) (v_begins : Int32) (v_entries : Int32) (v_length : Int32) (v_pressed : Int32) (v_streamFrames : Int32) (v_zeros : Int32) (v_level : Int32) (v_sum : Int32) (v_tail : Int32) (v_isPlayed : Int32) (v_found : Int32) (v_strange : Int32) (v_innerFails : Int32) (v_outerFails : Int32) (v_mostMarks : Int32) (v_unsure : Int32) (v_may : Int32) (v_mocks : Int32) (v_sumThen : Int32) (v_stream : Nat → Int32) (x1 : Int32) (x2 : Int32) (res : Int32 × Int32 × Int32 × (Nat → Int32)) (h : fX10_fill v_size v_thrown v_stream x1 x2 = some res) : Ctr l yX10_fill cX10_fill 5 (some .int) (rmK 0 0) D (tyL cB cI cZ) tw [.ref a_this, .int x1, .int x2] (wX10_fill cB cI cZ av a_this v_thrown v_size v_begins v_entries v_length v_pressed v_streamFrames v_zeros v_level v_sum v_tail v_isPlayed v_found v_strange v_innerFails v_outerFails v_mostMarks v_unsure v_may v_mocks v_sumThen v_stream) (fun res : Int32 × Int32 × Int32 × (Nat → Int32) => some (.int res.1)) (fun res : Int32 × Int32 × Int32 × (Nat → Int32) => (wX10_fill cB cI cZ av a_this (res.2.2.1) (res.2.1) v_begins v_entries v_length v_pressed v_streamFrames v_zeros v_level v_sum v_tail v_isPlayed v_found v_strange v_innerFails v_outerFails v_mostMarks v_unsure v_may v_mocks v_sumThen (res.2.2.2))) res := by
  refine ctr_of RX10 (by decide) rfl (Nat.le_of_ble_eq_true rfl) ?_
  intro p e s m below meth c A C hw ls hl
  have hx := C.1
  have hb := C.2.1
  have hl : lv_has ls 5 [(0, .ref a_this), (1, .int x1), (2, .int x2)] := hl
  unfold fX10_fill at h
  refine lv_aload_n (pc := 0) hx hb dX10_fill_0 rfl (lv_at hl 0 rfl) ?_
  refine lv_iconst (pc := 1) (v := 0) hx hb dX10_fill_1 (by decide) ?_
  refine pf_X10_100 (pc := 2) (wX10_fill cB cI cZ av a_this 0 v_size v_begins v_entries v_length v_pressed v_streamFrames v_zeros v_level v_sum v_tail v_isPlayed v_found v_strange v_innerFails v_outerFails v_mostMarks v_unsure v_may v_mocks v_sumThen v_stream) C hw 0 rfl rfl rfl rfl (Nat.le_of_ble_eq_true rfl) dX10_fill_2 (fun H locs hw => ?_)
  refine lv_iload_n (pc := 5) hx hb dX10_fill_5 rfl (lv_at hl 1 rfl) ?_
  refine lv_if_lt (pc := 6) (tgt := 24) hx hb dX10_fill_6 (by decide) (fun hc_1 => ?_) (fun hc_1 => ?_)
  · have h := ift hc_1 h
    refine lv_iconst (pc := 24) (v := (-1)) hx hb dX10_fill_24 (by decide) ?_
    exact x_iret (pc := 25) (v := ((-1), v_size, 0, v_stream)) C (Option.some.inj h) rfl hw dX10_fill_25
  · have h := iff' hc_1 h
    refine lv_aload_n (pc := 9) hx hb dX10_fill_9 rfl (lv_at hl 0 rfl) ?_
    refine gf_X10_148 (pc := 10) C hw 0 rfl rfl dX10_fill_10 ?_
    refine lv_i2l (pc := 13) hx hb dX10_fill_13 rfl ?_
    refine lv_iload_n (pc := 14) hx hb dX10_fill_14 rfl (lv_at hl 1 rfl) ?_
    refine lv_i2l (pc := 15) hx hb dX10_fill_15 rfl ?_
    refine lv_ladd (pc := 16) hx hb dX10_fill_16 ?_
    refine lv_ldc2 (pc := 17) (own := RX10) (v := 11712) hx hb C.2.2.2.1 (C.2.2.2.2.1 _ tw_1183) dX10_fill_17 ?_
    refine W.lcmp (pc := 20) hx hb dX10_fill_20 ?_
    refine lv_if_le (pc := 21) (tgt := 26) hx hb dX10_fill_21 (by decide) (fun hc_2 => ?_) (fun hc_2 => ?_)
    · have h := ift hc_2 h
      refine lv_iload_n (pc := 26) hx hb dX10_fill_26 rfl (lv_at hl 2 rfl) ?_
      refine lv_istore_n (pc := 27) (lv' := [(3, .int x2), (0, .ref a_this), (1, .int x1), (2, .int x2)]) hx hb dX10_fill_27 rfl hl (by decide) rfl (fun ls hl => ?_)
      refine lv_iconst (pc := 28) (v := 0) hx hb dX10_fill_28 (by decide) ?_
      refine lv_istore (pc := 29) (lv' := [(4, .int 0), (3, .int x2), (0, .ref a_this), (1, .int x1), (2, .int x2)]) hx hb dX10_fill_29 hl (by decide) rfl (fun ls hl => ?_)
      have Lih31_7 : ∀ (F : Nat) (x4_3 : Int32) (x3_4 : Int32) (v_size_5 : Int32) (v_stream_6 : Nat → Int32) (ls : Array Slot) (H : Heap) (locs : List Loc), lv_has ls 5 [(4, .int x4_3), (3, .int x3_4), (0, .ref a_this), (1, .int x1)] → Wd D A s (wX10_fill cB cI cZ av a_this 0 v_size_5 v_begins v_entries v_length v_pressed v_streamFrames v_zeros v_level v_sum v_tail v_isPlayed v_found v_strange v_innerFails v_outerFails v_mostMarks v_unsure v_may v_mocks v_sumThen v_stream_6) H locs → fX10_fill_L31 x1 F x4_3 x3_4 v_size_5 v_stream_6 = some res → W p l e (rmK 0 0) s m ([.ref a_this, .int x1, .int x2] : List Value).toArray below meth c H locs 0 0 (MQ below (QG D (tyL cB cI cZ) A (fun res : Int32 × Int32 × Int32 × (Nat → Int32) => some (.int res.1)) (fun res : Int32 × Int32 × Int32 × (Nat → Int32) => (wX10_fill cB cI cZ av a_this (res.2.2.1) (res.2.1) v_begins v_entries v_length v_pressed v_streamFrames v_zeros v_level v_sum v_tail v_isPlayed v_found v_strange v_innerFails v_outerFails v_mostMarks v_unsure v_may v_mocks v_sumThen (res.2.2.2))) res) ([.ref a_this, .int x1, .int x2] : List Value).toArray s 0 0 A) (F0 m 31 ls []) := by
        intro F
        induction F with
        | zero => intro x4_3 x3_4 v_size_5 v_stream_6 ls H locs hl hw h; rw [fX10_fill_L31.eq_1] at h; cases h
        | succ F31_7 ih31_7 =>
          intro x4_3 x3_4 v_size_5 v_stream_6 ls H locs hl hw h
          rw [fX10_fill_L31.eq_2] at h
          refine lv_iload (pc := 31) hx hb dX10_fill_31 (lv_at hl 0 rfl) ?_
          refine lv_iload_n (pc := 33) hx hb dX10_fill_33 rfl (lv_at hl 3 rfl) ?_
          refine lv_icmp_ge (pc := 34) (tgt := 75) hx hb dX10_fill_34 (by decide) (fun hc_8 => ?_) (fun hc_8 => ?_)
          · have h := ift hc_8 h
            refine lv_aload_n (pc := 75) hx hb dX10_fill_75 rfl (lv_at hl 2 rfl) ?_
            refine gf_X10_148 (pc := 76) C hw 0 rfl rfl dX10_fill_76 ?_
            exact x_iret (pc := 79) (v := (v_size_5, v_size_5, 0, v_stream_6)) C (Option.some.inj h) rfl hw dX10_fill_79
          · have h := iff' hc_8 h
            refine lv_iload_n (pc := 37) hx hb dX10_fill_37 rfl (lv_at hl 1 rfl) ?_
            refine lv_ldc (pc := 38) (own := RX10) (v := 1664525) hx hb C.2.2.2.1 (C.2.2.2.2.1 _ tw_1184) dX10_fill_38 ?_
            refine lv_imul (pc := 40) hx hb dX10_fill_40 ?_
            refine lv_ldc (pc := 41) (own := RX10) (v := 1013904223) hx hb C.2.2.2.1 (C.2.2.2.2.1 _ tw_1185) dX10_fill_41 ?_
            refine lv_iadd (pc := 43) hx hb dX10_fill_43 ?_
            refine lv_topi (pc := 44) (fun x3_9 ex3_9 => ?_)
            have h := nm_at ex3_9 h
            refine lv_istore_n (pc := 44) (lv' := [(3, .int x3_9), (4, .int x4_3), (0, .ref a_this), (1, .int x1)]) hx hb dX10_fill_44 rfl hl (by decide) rfl (fun ls hl => ?_)
            refine lv_aload_n (pc := 45) hx hb dX10_fill_45 rfl (lv_at hl 2 rfl) ?_
            refine gf_X10_22 (pc := 46) C hw 0 rfl rfl dX10_fill_46 ?_
            refine lv_aload_n (pc := 49) hx hb dX10_fill_49 rfl (lv_at hl 2 rfl) ?_
            refine gf_X10_148 (pc := 50) C hw 0 rfl rfl dX10_fill_50 ?_
            refine lv_iload_n (pc := 53) hx hb dX10_fill_53 rfl (lv_at hl 0 rfl) ?_
            refine lv_bipush (pc := 54) (v := 24) hx hb dX10_fill_54 (by decide) ?_
            refine lv_iushr (pc := 56) hx hb dX10_fill_56 rfl ?_
            refine lv_i2b (pc := 57) hx hb dX10_fill_57 rfl ?_
            obtain ⟨hi_10, h⟩ := og_at h
            obtain ⟨v_stream_11, ev_stream_11⟩ : ∃ y : Nat → Int32, y = upd v_stream_6 (Int32.toNatClampNeg v_size_5) (vp_nar .byte (Int8.toInt32 (Int32.toInt8 (UInt32.toInt32 (Int32.toUInt32 x3_9 >>> (Int32.toUInt32 24 &&& Int32.toUInt32 31)))))) := ⟨_, rfl⟩
            have h := nm_at ev_stream_11 h
            refine x_bast (pc := 58) (wX10_fill cB cI cZ av a_this 0 v_size_5 v_begins v_entries v_length v_pressed v_streamFrames v_zeros v_level v_sum v_tail v_isPlayed v_found v_strange v_innerFails v_outerFails v_mostMarks v_unsure v_may v_mocks v_sumThen v_stream_11) C hw 1 rfl hi_10 (by rw [ev_stream_11]; rfl) dX10_fill_58 (fun H locs hw => ?_)
            refine lv_aload_n (pc := 59) hx hb dX10_fill_59 rfl (lv_at hl 2 rfl) ?_
            refine lv_dup (pc := 60) hx hb dX10_fill_60 rfl ?_
            refine gf_X10_148 (pc := 61) C hw 0 rfl rfl dX10_fill_61 ?_
            refine lv_iconst (pc := 64) (v := 1) hx hb dX10_fill_64 (by decide) ?_
            refine lv_iadd (pc := 65) hx hb dX10_fill_65 ?_
            refine lv_topi (pc := 66) (fun v_size_12 ev_size_12 => ?_)
            have h := nm_at ev_size_12 h
            refine pf_X10_148 (pc := 66) (wX10_fill cB cI cZ av a_this 0 v_size_12 v_begins v_entries v_length v_pressed v_streamFrames v_zeros v_level v_sum v_tail v_isPlayed v_found v_strange v_innerFails v_outerFails v_mostMarks v_unsure v_may v_mocks v_sumThen v_stream_11) C hw 0 rfl rfl rfl rfl (Nat.le_of_ble_eq_true rfl) dX10_fill_66 (fun H locs hw => ?_)
            obtain ⟨x4_13, ex4_13⟩ : ∃ y : Int32, y = x4_3 + 1 := ⟨_, rfl⟩
            have h := nm_at ex4_13 h
            refine lv_iinc (pc := 69) (v := x4_13) (lv' := [(4, .int x4_13), (3, .int x3_9), (0, .ref a_this), (1, .int x1)]) hx hb dX10_fill_69 hl (k := 1) rfl (by rw [ex4_13]; rfl) (by decide) rfl (fun ls hl => ?_)
            refine lv_goto (pc := 72) (tgt := 31) hx hb dX10_fill_72 (by decide) ?_
            exact ih31_7 x4_13 x3_9 v_size_12 v_stream_11 ls _ _ (lv_sub hl [0, 1, 2, 3] rfl) hw h
      exact Lih31_7 FU 0 x2 v_size v_stream ls _ _ (lv_sub hl [0, 1, 2, 3] rfl) hw h
    · have h := iff' hc_2 h
      refine lv_iconst (pc := 24) (v := (-1)) hx hb dX10_fill_24 (by decide) ?_
      exact x_iret (pc := 25) (v := ((-1), v_size, 0, v_stream)) C (Option.some.inj h) rfl hw dX10_fill_25
def wX10_wipe (cB cI cZ : ClassId) (av : Nat → Nat) (a_this : Nat) (v_thrown : Int32) (v_size : Int32) (v_begins : Int32) (v_entries : Int32) (v_length : Int32) (v_pressed : Int32) (v_streamFrames : Int32) (v_zeros : Int32) (v_level : Int32) (v_sum : Int32) (v_tail : Int32) (v_isPlayed : Int32) (v_found : Int32) (v_strange : Int32) (v_innerFails : Int32) (v_outerFails : Int32) (v_mostMarks : Int32) (v_unsure : Int32) (v_may : Int32) (v_mocks : Int32) (v_sumThen : Int32) : va_W := [oX10 a_this av v_thrown v_size v_begins v_entries v_length v_pressed v_streamFrames v_zeros v_level v_sum v_tail v_isPlayed v_found v_strange v_innerFails v_outerFails v_mostMarks v_unsure v_may v_mocks v_sumThen]
def fX10_wipe (v_size : Int32) (v_thrown : Int32) : Int32 × Int32 × Int32 := (v_size, 0, 0)
set_option maxHeartbeats 4000000 in
set_option maxRecDepth 100000 in
theorem ct_X10_wipe (l : Launch) (D : va_G) (cB cI cZ : ClassId) (tw : Nat) (av : Nat → Nat) (a_this : Nat) (v_thrown : Int32) (v_size : Int32) (v_begins : Int32) (v_entries : Int32) (v_length : Int32) (v_pressed : Int32) (v_streamFrames : Int32) (v_zeros : Int32) (v_level : Int32) (v_sum : Int32) (v_tail : Int32) (v_isPlayed : Int32) (v_found : Int32) (v_strange : Int32) (v_innerFails : Int32) (v_outerFails : Int32) (v_mostMarks : Int32) (v_unsure : Int32) (v_may : Int32) (v_mocks : Int32) (v_sumThen : Int32) (res : Int32 × Int32 × Int32) (h : fX10_wipe v_size v_thrown = res) : Ctr l yX10_wipe cX10_wipe 2 (some .int) (rmK 0 0) D (tyL cB cI cZ) tw [.ref a_this] (wX10_wipe cB cI cZ av a_this v_thrown v_size v_begins v_entries v_length v_pressed v_streamFrames v_zeros v_level v_sum v_tail v_isPlayed v_found v_strange v_innerFails v_outerFails v_mostMarks v_unsure v_may v_mocks v_sumThen) (fun res : Int32 × Int32 × Int32 => some (.int res.1)) (fun res : Int32 × Int32 × Int32 => (wX10_wipe cB cI cZ av a_this (res.2.2) (res.2.1) v_begins v_entries v_length v_pressed v_streamFrames v_zeros v_level v_sum v_tail v_isPlayed v_found v_strange v_innerFails v_outerFails v_mostMarks v_unsure v_may v_mocks v_sumThen)) res := by
  refine ctr_of RX10 (by decide) rfl (Nat.le_of_ble_eq_true rfl) ?_
  intro p e s m below meth c A C hw ls hl
  have hx := C.1
  have hb := C.2.1
  have hl : lv_has ls 2 [(0, .ref a_this)] := hl
  unfold fX10_wipe at h
  refine lv_aload_n (pc := 0) hx hb dX10_wipe_0 rfl (lv_at hl 0 rfl) ?_
  refine lv_iconst (pc := 1) (v := 0) hx hb dX10_wipe_1 (by decide) ?_
  refine pf_X10_100 (pc := 2) (wX10_wipe cB cI cZ av a_this 0 v_size v_begins v_entries v_length v_pressed v_streamFrames v_zeros v_level v_sum v_tail v_isPlayed v_found v_strange v_innerFails v_outerFails v_mostMarks v_unsure v_may v_mocks v_sumThen) C hw 0 rfl rfl rfl rfl (Nat.le_of_ble_eq_true rfl) dX10_wipe_2 (fun H locs hw => ?_)
  refine lv_aload_n (pc := 5) hx hb dX10_wipe_5 rfl (lv_at hl 0 rfl) ?_
  refine gf_X10_148 (pc := 6) C hw 0 rfl rfl dX10_wipe_6 ?_
  refine lv_istore_n (pc := 9) (lv' := [(1, .int v_size), (0, .ref a_this)]) hx hb dX10_wipe_9 rfl hl (by decide) rfl (fun ls hl => ?_)
  refine lv_aload_n (pc := 10) hx hb dX10_wipe_10 rfl (lv_at hl 1 rfl) ?_
  refine lv_iconst (pc := 11) (v := 0) hx hb dX10_wipe_11 (by decide) ?_
  refine pf_X10_148 (pc := 12) (wX10_wipe cB cI cZ av a_this 0 0 v_begins v_entries v_length v_pressed v_streamFrames v_zeros v_level v_sum v_tail v_isPlayed v_found v_strange v_innerFails v_outerFails v_mostMarks v_unsure v_may v_mocks v_sumThen) C hw 0 rfl rfl rfl rfl (Nat.le_of_ble_eq_true rfl) dX10_wipe_12 (fun H locs hw => ?_)
  refine lv_iload_n (pc := 15) hx hb dX10_wipe_15 rfl (lv_at hl 0 rfl) ?_
  exact x_iret (pc := 16) (v := (v_size, 0, 0)) C h rfl hw dX10_wipe_16
def wX10_streamAt (cB cI cZ : ClassId) (av : Nat → Nat) (a_this : Nat) (v_thrown : Int32) (v_size : Int32) (v_begins : Int32) (v_entries : Int32) (v_length : Int32) (v_pressed : Int32) (v_streamFrames : Int32) (v_zeros : Int32) (v_level : Int32) (v_sum : Int32) (v_tail : Int32) (v_isPlayed : Int32) (v_found : Int32) (v_strange : Int32) (v_innerFails : Int32) (v_outerFails : Int32) (v_mostMarks : Int32) (v_unsure : Int32) (v_may : Int32) (v_mocks : Int32) (v_sumThen : Int32) (v_stream : Nat → Int32) : va_W := [oX10 a_this av v_thrown v_size v_begins v_entries v_length v_pressed v_streamFrames v_zeros v_level v_sum v_tail v_isPlayed v_found v_strange v_innerFails v_outerFails v_mostMarks v_unsure v_may v_mocks v_sumThen, ((av 5), .inl (cB, 11712, .inl v_stream))]
def fX10_streamAt (v_size : Int32) (v_thrown : Int32) (v_stream : Nat → Int32) (x1 : Int32) : Option (Int32 × Int32) := nt1 (fX10_in (Int32.toInt64 x1) 0 (Int32.toInt64 (v_size - (1 : Int32)))) fun r_1 => if r_1 = 0 then some ((-1), 0) else og (ixb x1 11712) (some (((v_stream (Int32.toNatClampNeg x1)) &&& (255 : Int32)), 0))
set_option maxHeartbeats 4000000 in
set_option maxRecDepth 100000 in
theorem ct_X10_streamAt (l : Launch) (D : va_G) (cB cI cZ : ClassId) (tw : Nat) (av : Nat → Nat) (a_this : Nat) (v_thrown : Int32) (v_size : Int32) (v_begins : Int32) (v_entries : Int32) (v_length : Int32) (v_pressed : Int32) (v_streamFrames : Int32) (v_zeros : Int32) (v_level : Int32) (v_sum : Int32) (v_tail : Int32) (v_isPlayed : Int32) (v_found : Int32) (v_strange : Int32) (v_innerFails : Int32) (v_outerFails : Int32) (v_mostMarks : Int32) (v_unsure : Int32) (v_may : Int32) (v_mocks : Int32) (v_sumThen : Int32) (v_stream : Nat → Int32) (x1 : Int32) (res : Int32 × Int32) (h : fX10_streamAt v_size v_thrown v_stream x1 = some res) : Ctr l yX10_streamAt cX10_streamAt 2 (some .int) (rmK 1 25) D (tyL cB cI cZ) tw [.ref a_this, .int x1] (wX10_streamAt cB cI cZ av a_this v_thrown v_size v_begins v_entries v_length v_pressed v_streamFrames v_zeros v_level v_sum v_tail v_isPlayed v_found v_strange v_innerFails v_outerFails v_mostMarks v_unsure v_may v_mocks v_sumThen v_stream) (fun res : Int32 × Int32 => some (.int res.1)) (fun res : Int32 × Int32 => (wX10_streamAt cB cI cZ av a_this (res.2) v_size v_begins v_entries v_length v_pressed v_streamFrames v_zeros v_level v_sum v_tail v_isPlayed v_found v_strange v_innerFails v_outerFails v_mostMarks v_unsure v_may v_mocks v_sumThen v_stream)) res := by
  refine ctr_of RX10 (by decide) rfl (Nat.le_of_ble_eq_true rfl) ?_
  intro p e s m below meth c A C hw ls hl
  have hx := C.1
  have hb := C.2.1
  have hl : lv_has ls 2 [(0, .ref a_this), (1, .int x1)] := hl
  unfold fX10_streamAt at h
  refine lv_aload_n (pc := 0) hx hb dX10_streamAt_0 rfl (lv_at hl 0 rfl) ?_
  refine lv_iconst (pc := 1) (v := 0) hx hb dX10_streamAt_1 (by decide) ?_
  refine pf_X10_100 (pc := 2) (wX10_streamAt cB cI cZ av a_this 0 v_size v_begins v_entries v_length v_pressed v_streamFrames v_zeros v_level v_sum v_tail v_isPlayed v_found v_strange v_innerFails v_outerFails v_mostMarks v_unsure v_may v_mocks v_sumThen v_stream) C hw 0 rfl rfl rfl rfl (Nat.le_of_ble_eq_true rfl) dX10_streamAt_2 (fun H locs hw => ?_)
  refine lv_iload_n (pc := 5) hx hb dX10_streamAt_5 rfl (lv_at hl 1 rfl) ?_
  refine lv_i2l (pc := 6) hx hb dX10_streamAt_6 rfl ?_
  refine lv_lconst (pc := 7) (v := 0) hx hb dX10_streamAt_7 (by decide) ?_
  refine lv_aload_n (pc := 8) hx hb dX10_streamAt_8 rfl (lv_at hl 0 rfl) ?_
  refine gf_X10_148 (pc := 9) C hw 0 rfl rfl dX10_streamAt_9 ?_
  refine lv_iconst (pc := 12) (v := 1) hx hb dX10_streamAt_12 (by decide) ?_
  refine lv_isub (pc := 13) hx hb dX10_streamAt_13 ?_
  refine lv_i2l (pc := 14) hx hb dX10_streamAt_14 rfl ?_
  obtain ⟨r_1, hq_2, h⟩ := nt1_at h
  refine x_callS (pc := 15) (rest := []) (stk := [.int r_1]) (wX10_streamAt cB cI cZ av a_this 0 v_size v_begins v_entries v_length v_pressed v_streamFrames v_zeros v_level v_sum v_tail v_isPlayed v_found v_strange v_innerFails v_outerFails v_mostMarks v_unsure v_may v_mocks v_sumThen v_stream) C hw (ct_X10_in l D cB cI cZ tw av (Int32.toInt64 x1) 0 (Int32.toInt64 (v_size - (1 : Int32))) r_1 hq_2.symm) cal_X10_in tw_1176 [] [0, 1] 2 [oX10 a_this av 0 v_size v_begins v_entries v_length v_pressed v_streamFrames v_zeros v_level v_sum v_tail v_isPlayed v_found v_strange v_innerFails v_outerFails v_mostMarks v_unsure v_may v_mocks v_sumThen, ((av 5), .inl (cB, 11712, .inl v_stream))] rfl rfl rfl rfl rfl rfl rfl rfl rfl rfl rfl (Nat.le_of_ble_eq_true rfl) hl.1 ⟨Nat.le_of_ble_eq_true rfl, Nat.le_of_ble_eq_true rfl⟩ ⟨Nat.zero_le _, Nat.zero_le _⟩ dX10_streamAt_15 (fun H locs hw => ?_)
  refine lv_if_eq (pc := 18) (tgt := 34) hx hb dX10_streamAt_18 (by decide) (fun hc_3 => ?_) (fun hc_3 => ?_)
  · have h := ift hc_3 h
    refine lv_iconst (pc := 34) (v := (-1)) hx hb dX10_streamAt_34 (by decide) ?_
    exact x_iret (pc := 35) (v := ((-1), 0)) C (Option.some.inj h) rfl hw dX10_streamAt_35
  · have h := iff' hc_3 h
    refine lv_aload_n (pc := 21) hx hb dX10_streamAt_21 rfl (lv_at hl 0 rfl) ?_
    refine gf_X10_22 (pc := 22) C hw 0 rfl rfl dX10_streamAt_22 ?_
    refine lv_iload_n (pc := 25) hx hb dX10_streamAt_25 rfl (lv_at hl 1 rfl) ?_
    obtain ⟨hi_4, h⟩ := og_at h
    refine x_bald (pc := 26) C hw 1 rfl hi_4 dX10_streamAt_26 ?_
    refine lv_sipush (pc := 27) (v := 255) hx hb dX10_streamAt_27 (by decide) ?_
    refine lv_iand (pc := 30) hx hb dX10_streamAt_30 ?_
    refine lv_goto (pc := 31) (tgt := 35) hx hb dX10_streamAt_31 (by decide) ?_
    exact x_iret (pc := 35) (v := (((v_stream (Int32.toNatClampNeg x1)) &&& (255 : Int32)), 0)) C (Option.some.inj h) rfl hw dX10_streamAt_35
def wX10_begin (cB cI cZ : ClassId) (av : Nat → Nat) (a_this : Nat) (v_thrown : Int32) (v_size : Int32) (v_begins : Int32) (v_entries : Int32) (v_length : Int32) (v_pressed : Int32) (v_streamFrames : Int32) (v_zeros : Int32) (v_level : Int32) (v_sum : Int32) (v_tail : Int32) (v_isPlayed : Int32) (v_found : Int32) (v_strange : Int32) (v_innerFails : Int32) (v_outerFails : Int32) (v_mostMarks : Int32) (v_unsure : Int32) (v_may : Int32) (v_mocks : Int32) (v_sumThen : Int32) : va_W := [oX10 a_this av v_thrown v_size v_begins v_entries v_length v_pressed v_streamFrames v_zeros v_level v_sum v_tail v_isPlayed v_found v_strange v_innerFails v_outerFails v_mostMarks v_unsure v_may v_mocks v_sumThen]
def fX10_begin (v_begins : Int32) (v_thrown : Int32) (x1 : Int32) : Option (Int32 × Int32 × Int32) := nt1 (fX10_in (Int32.toInt64 x1) 0 400000) fun r_1 => jk (fun (t_3 : Int32) => og (zb r_1) (some (r_1, t_3, 0))) fun j28_4 => if r_1 = 0 then j28_4 v_begins else j28_4 x1
set_option maxHeartbeats 4000000 in
set_option maxRecDepth 100000 in
theorem ct_X10_begin (l : Launch) (D : va_G) (cB cI cZ : ClassId) (tw : Nat) (av : Nat → Nat) (a_this : Nat) (v_thrown : Int32) (v_size : Int32) (v_begins : Int32) (v_entries : Int32) (v_length : Int32) (v_pressed : Int32) (v_streamFrames : Int32) (v_zeros : Int32) (v_level : Int32) (v_sum : Int32) (v_tail : Int32) (v_isPlayed : Int32) (v_found : Int32) (v_strange : Int32) (v_innerFails : Int32) (v_outerFails : Int32) (v_mostMarks : Int32) (v_unsure : Int32) (v_may : Int32) (v_mocks : Int32) (v_sumThen : Int32) (x1 : Int32) (res : Int32 × Int32 × Int32) (h : fX10_begin v_begins v_thrown x1 = some res) : Ctr l yX10_begin cX10_begin 3 (some .boolean) (rmK 1 25) D (tyL cB cI cZ) tw [.ref a_this, .int x1] (wX10_begin cB cI cZ av a_this v_thrown v_size v_begins v_entries v_length v_pressed v_streamFrames v_zeros v_level v_sum v_tail v_isPlayed v_found v_strange v_innerFails v_outerFails v_mostMarks v_unsure v_may v_mocks v_sumThen) (fun res : Int32 × Int32 × Int32 => some (.int res.1)) (fun res : Int32 × Int32 × Int32 => (wX10_begin cB cI cZ av a_this (res.2.2) v_size (res.2.1) v_entries v_length v_pressed v_streamFrames v_zeros v_level v_sum v_tail v_isPlayed v_found v_strange v_innerFails v_outerFails v_mostMarks v_unsure v_may v_mocks v_sumThen)) res := by
  refine ctr_of RX10 (by decide) rfl (Nat.le_of_ble_eq_true rfl) ?_
  intro p e s m below meth c A C hw ls hl
  have hx := C.1
  have hb := C.2.1
  have hl : lv_has ls 3 [(0, .ref a_this), (1, .int x1)] := hl
  unfold fX10_begin at h
  refine lv_aload_n (pc := 0) hx hb dX10_begin_0 rfl (lv_at hl 0 rfl) ?_
  refine lv_iconst (pc := 1) (v := 0) hx hb dX10_begin_1 (by decide) ?_
  refine pf_X10_100 (pc := 2) (wX10_begin cB cI cZ av a_this 0 v_size v_begins v_entries v_length v_pressed v_streamFrames v_zeros v_level v_sum v_tail v_isPlayed v_found v_strange v_innerFails v_outerFails v_mostMarks v_unsure v_may v_mocks v_sumThen) C hw 0 rfl rfl rfl rfl (Nat.le_of_ble_eq_true rfl) dX10_begin_2 (fun H locs hw => ?_)
  refine lv_iload_n (pc := 5) hx hb dX10_begin_5 rfl (lv_at hl 1 rfl) ?_
  refine lv_i2l (pc := 6) hx hb dX10_begin_6 rfl ?_
  refine lv_lconst (pc := 7) (v := 0) hx hb dX10_begin_7 (by decide) ?_
  refine lv_ldc2 (pc := 8) (own := RX10) (v := 400000) hx hb C.2.2.2.1 (C.2.2.2.2.1 _ tw_1198) dX10_begin_8 ?_
  obtain ⟨r_1, hq_2, h⟩ := nt1_at h
  refine x_callS (pc := 11) (rest := []) (stk := [.int r_1]) (wX10_begin cB cI cZ av a_this 0 v_size v_begins v_entries v_length v_pressed v_streamFrames v_zeros v_level v_sum v_tail v_isPlayed v_found v_strange v_innerFails v_outerFails v_mostMarks v_unsure v_may v_mocks v_sumThen) C hw (ct_X10_in l D cB cI cZ tw av (Int32.toInt64 x1) 0 400000 r_1 hq_2.symm) cal_X10_in tw_1176 [] [0] 1 [oX10 a_this av 0 v_size v_begins v_entries v_length v_pressed v_streamFrames v_zeros v_level v_sum v_tail v_isPlayed v_found v_strange v_innerFails v_outerFails v_mostMarks v_unsure v_may v_mocks v_sumThen] rfl rfl rfl rfl rfl rfl rfl rfl rfl rfl rfl (Nat.le_of_ble_eq_true rfl) hl.1 ⟨Nat.le_of_ble_eq_true rfl, Nat.le_of_ble_eq_true rfl⟩ ⟨Nat.zero_le _, Nat.zero_le _⟩ dX10_begin_11 (fun H locs hw => ?_)
  refine lv_istore_n (pc := 14) (lv' := [(2, .int r_1), (0, .ref a_this), (1, .int x1)]) hx hb dX10_begin_14 rfl hl (by decide) rfl (fun ls hl => ?_)
  refine lv_aload_n (pc := 15) hx hb dX10_begin_15 rfl (lv_at hl 1 rfl) ?_
  refine lv_iload_n (pc := 16) hx hb dX10_begin_16 rfl (lv_at hl 0 rfl) ?_
  obtain ⟨j28_4, ej28_4, h⟩ := jk_at h
  have J28_4 : ∀ (t_3 : Int32) (ls : Array Slot) (H : Heap) (locs : List Loc), lv_has ls 3 [(2, .int r_1)] → Wd D A s (wX10_begin cB cI cZ av a_this 0 v_size v_begins v_entries v_length v_pressed v_streamFrames v_zeros v_level v_sum v_tail v_isPlayed v_found v_strange v_innerFails v_outerFails v_mostMarks v_unsure v_may v_mocks v_sumThen) H locs → j28_4 t_3 = some res → W p l e (rmK 1 25) s m ([.ref a_this, .int x1] : List Value).toArray below meth c H locs 0 0 (MQ below (QG D (tyL cB cI cZ) A (fun res : Int32 × Int32 × Int32 => some (.int res.1)) (fun res : Int32 × Int32 × Int32 => (wX10_begin cB cI cZ av a_this (res.2.2) v_size (res.2.1) v_entries v_length v_pressed v_streamFrames v_zeros v_level v_sum v_tail v_isPlayed v_found v_strange v_innerFails v_outerFails v_mostMarks v_unsure v_may v_mocks v_sumThen)) res) ([.ref a_this, .int x1] : List Value).toArray s 0 0 A) (F0 m 28 ls [.int t_3, .ref a_this]) := by
    intro t_3 ls H locs hl hw h
    have h := k1_at ej28_4 h
    refine pf_X10_157 (pc := 28) (wX10_begin cB cI cZ av a_this 0 v_size t_3 v_entries v_length v_pressed v_streamFrames v_zeros v_level v_sum v_tail v_isPlayed v_found v_strange v_innerFails v_outerFails v_mostMarks v_unsure v_may v_mocks v_sumThen) C hw 0 rfl rfl rfl rfl (Nat.le_of_ble_eq_true rfl) dX10_begin_28 (fun H locs hw => ?_)
    refine lv_iload_n (pc := 31) hx hb dX10_begin_31 rfl (lv_at hl 0 rfl) ?_
    obtain ⟨hz_5, h⟩ := og_at h
    exact x_zret (pc := 32) (v := (r_1, t_3, 0)) C (Option.some.inj h) hz_5 rfl hw dX10_begin_32
  refine lv_if_eq (pc := 17) (tgt := 24) hx hb dX10_begin_17 (by decide) (fun hc_6 => ?_) (fun hc_6 => ?_)
  · have h := ift hc_6 h
    refine lv_aload_n (pc := 24) hx hb dX10_begin_24 rfl (lv_at hl 1 rfl) ?_
    refine gf_X10_157 (pc := 25) C hw 0 rfl rfl dX10_begin_25 ?_
    exact J28_4 v_begins ls _ _ (lv_sub hl [0] rfl) hw h
  · have h := iff' hc_6 h
    refine lv_iload_n (pc := 20) hx hb dX10_begin_20 rfl (lv_at hl 2 rfl) ?_
    refine lv_goto (pc := 21) (tgt := 28) hx hb dX10_begin_21 (by decide) ?_
    exact J28_4 x1 ls _ _ (lv_sub hl [0] rfl) hw h
def wX10_entry (cB cI cZ : ClassId) (av : Nat → Nat) (a_this : Nat) (v_thrown : Int32) (v_size : Int32) (v_begins : Int32) (v_entries : Int32) (v_length : Int32) (v_pressed : Int32) (v_streamFrames : Int32) (v_zeros : Int32) (v_level : Int32) (v_sum : Int32) (v_tail : Int32) (v_isPlayed : Int32) (v_found : Int32) (v_strange : Int32) (v_innerFails : Int32) (v_outerFails : Int32) (v_mostMarks : Int32) (v_unsure : Int32) (v_may : Int32) (v_mocks : Int32) (v_sumThen : Int32) (v_entryControl : Nat → Int32) (v_entryIndex : Nat → Int32) (v_entrySection : Nat → Int32) (v_entryTrack : Nat → Int32) : va_W := [oX10 a_this av v_thrown v_size v_begins v_entries v_length v_pressed v_streamFrames v_zeros v_level v_sum v_tail v_isPlayed v_found v_strange v_innerFails v_outerFails v_mostMarks v_unsure v_may v_mocks v_sumThen, ((av 10), .inl (cI, 20, .inl v_entryControl)), ((av 12), .inl (cI, 20, .inl v_entryIndex)), ((av 9), .inl (cI, 20, .inl v_entrySection)), ((av 11), .inl (cI, 20, .inl v_entryTrack))]
def fX10_entry (v_entries : Int32) (v_thrown : Int32) (v_entryControl : Nat → Int32) (v_entryIndex : Nat → Int32) (v_entrySection : Nat → Int32) (v_entryTrack : Nat → Int32) (x1 : Int32) (x2 : Int32) (x3 : Int32) (x4 : Int32) : Option (Int32 × Int32 × Int32 × (Nat → Int32) × (Nat → Int32) × (Nat → Int32) × (Nat → Int32)) := nt1 (fX10_in (Int32.toInt64 x1) 0 9) fun r_1 => if r_1 = 0 then some ((-1), v_entries, 0, v_entryControl, v_entryIndex, v_entrySection, v_entryTrack) else nt1 (fX10_in (Int32.toInt64 x2) 0 15) fun r_4 => if r_4 = 0 then some ((-1), v_entries, 0, v_entryControl, v_entryIndex, v_entrySection, v_entryTrack) else nt1 (fX10_in (Int32.toInt64 x3) 1 99) fun r_7 => if r_7 = 0 then some ((-1), v_entries, 0, v_entryControl, v_entryIndex, v_entrySection, v_entryTrack) else nt1 (fX10_in (Int32.toInt64 x4) 0 99) fun r_10 => if r_10 = 0 then some ((-1), v_entries, 0, v_entryControl, v_entryIndex, v_entrySection, v_entryTrack) else if v_entries = (20 : Int32) then some ((-1), v_entries, 0, v_entryControl, v_entryIndex, v_entrySection, v_entryTrack) else og (ixb v_entries 20) (nm (upd v_entrySection (Int32.toNatClampNeg v_entries) x1) fun v_entrySection_15 => og (ixb v_entries 20) (nm (upd v_entryControl (Int32.toNatClampNeg v_entries) x2) fun v_entryControl_17 => og (ixb v_entries 20) (nm (upd v_entryTrack (Int32.toNatClampNeg v_entries) x3) fun v_entryTrack_19 => og (ixb v_entries 20) (nm (upd v_entryIndex (Int32.toNatClampNeg v_entries) x4) fun v_entryIndex_21 => nm ((v_entries + (1 : Int32)) : Int32) fun v_entries_22 => some (v_entries_22, v_entries_22, 0, v_entryControl_17, v_entryIndex_21, v_entrySection_15, v_entryTrack_19)))))
set_option maxHeartbeats 4000000 in
set_option maxRecDepth 100000 in
theorem ct_X10_entry (l : Launch) (D : va_G) (cB cI cZ : ClassId) (tw : Nat) (av : Nat → Nat) (a_this : Nat) (v_thrown : Int32) (v_size : Int32) (v_begins : Int32) (v_entries : Int32) (v_length : Int32) (v_pressed : Int32) (v_streamFrames : Int32) (v_zeros : Int32) (v_level : Int32) (v_sum : Int32) (v_tail : Int32) (v_isPlayed : Int32) (v_found : Int32) (v_strange : Int32) (v_innerFails : Int32) (v_outerFails : Int32) (v_mostMarks : Int32) (v_unsure : Int32) (v_may : Int32) (v_mocks : Int32) (v_sumThen : Int32) (v_entryControl : Nat → Int32) (v_entryIndex : Nat → Int32) (v_entrySection : Nat → Int32) (v_entryTrack : Nat → Int32) (x1 : Int32) (x2 : Int32) (x3 : Int32) (x4 : Int32) (res : Int32 × Int32 × Int32 × (Nat → Int32) × (Nat → Int32) × (Nat → Int32) × (Nat → Int32)) (h : fX10_entry v_entries v_thrown v_entryControl v_entryIndex v_entrySection v_entryTrack x1 x2 x3 x4 = some res) : Ctr l yX10_entry cX10_entry 5 (some .int) (rmK 1 25) D (tyL cB cI cZ) tw [.ref a_this, .int x1, .int x2, .int x3, .int x4] (wX10_entry cB cI cZ av a_this v_thrown v_size v_begins v_entries v_length v_pressed v_streamFrames v_zeros v_level v_sum v_tail v_isPlayed v_found v_strange v_innerFails v_outerFails v_mostMarks v_unsure v_may v_mocks v_sumThen v_entryControl v_entryIndex v_entrySection v_entryTrack) (fun res : Int32 × Int32 × Int32 × (Nat → Int32) × (Nat → Int32) × (Nat → Int32) × (Nat → Int32) => some (.int res.1)) (fun res : Int32 × Int32 × Int32 × (Nat → Int32) × (Nat → Int32) × (Nat → Int32) × (Nat → Int32) => (wX10_entry cB cI cZ av a_this (res.2.2.1) v_size v_begins (res.2.1) v_length v_pressed v_streamFrames v_zeros v_level v_sum v_tail v_isPlayed v_found v_strange v_innerFails v_outerFails v_mostMarks v_unsure v_may v_mocks v_sumThen (res.2.2.2.1) (res.2.2.2.2.1) (res.2.2.2.2.2.1) (res.2.2.2.2.2.2))) res := by
  refine ctr_of RX10 (by decide) rfl (Nat.le_of_ble_eq_true rfl) ?_
  intro p e s m below meth c A C hw ls hl
  have hx := C.1
  have hb := C.2.1
  have hl : lv_has ls 5 [(0, .ref a_this), (1, .int x1), (2, .int x2), (3, .int x3), (4, .int x4)] := hl
  unfold fX10_entry at h
  refine lv_aload_n (pc := 0) hx hb dX10_entry_0 rfl (lv_at hl 0 rfl) ?_
  refine lv_iconst (pc := 1) (v := 0) hx hb dX10_entry_1 (by decide) ?_
  refine pf_X10_100 (pc := 2) (wX10_entry cB cI cZ av a_this 0 v_size v_begins v_entries v_length v_pressed v_streamFrames v_zeros v_level v_sum v_tail v_isPlayed v_found v_strange v_innerFails v_outerFails v_mostMarks v_unsure v_may v_mocks v_sumThen v_entryControl v_entryIndex v_entrySection v_entryTrack) C hw 0 rfl rfl rfl rfl (Nat.le_of_ble_eq_true rfl) dX10_entry_2 (fun H locs hw => ?_)
  refine lv_iload_n (pc := 5) hx hb dX10_entry_5 rfl (lv_at hl 1 rfl) ?_
  refine lv_i2l (pc := 6) hx hb dX10_entry_6 rfl ?_
  refine lv_lconst (pc := 7) (v := 0) hx hb dX10_entry_7 (by decide) ?_
  refine lv_ldc2 (pc := 8) (own := RX10) (v := 9) hx hb C.2.2.2.1 (C.2.2.2.2.1 _ tw_1203) dX10_entry_8 ?_
  obtain ⟨r_1, hq_2, h⟩ := nt1_at h
  refine x_callS (pc := 11) (rest := []) (stk := [.int r_1]) (wX10_entry cB cI cZ av a_this 0 v_size v_begins v_entries v_length v_pressed v_streamFrames v_zeros v_level v_sum v_tail v_isPlayed v_found v_strange v_innerFails v_outerFails v_mostMarks v_unsure v_may v_mocks v_sumThen v_entryControl v_entryIndex v_entrySection v_entryTrack) C hw (ct_X10_in l D cB cI cZ tw av (Int32.toInt64 x1) 0 9 r_1 hq_2.symm) cal_X10_in tw_1176 [] [0, 1, 2, 3, 4] 5 [oX10 a_this av 0 v_size v_begins v_entries v_length v_pressed v_streamFrames v_zeros v_level v_sum v_tail v_isPlayed v_found v_strange v_innerFails v_outerFails v_mostMarks v_unsure v_may v_mocks v_sumThen, ((av 10), .inl (cI, 20, .inl v_entryControl)), ((av 12), .inl (cI, 20, .inl v_entryIndex)), ((av 9), .inl (cI, 20, .inl v_entrySection)), ((av 11), .inl (cI, 20, .inl v_entryTrack))] rfl rfl rfl rfl rfl rfl rfl rfl rfl rfl rfl (Nat.le_of_ble_eq_true rfl) hl.1 ⟨Nat.le_of_ble_eq_true rfl, Nat.le_of_ble_eq_true rfl⟩ ⟨Nat.zero_le _, Nat.zero_le _⟩ dX10_entry_11 (fun H locs hw => ?_)
  refine lv_if_eq (pc := 14) (tgt := 63) hx hb dX10_entry_14 (by decide) (fun hc_3 => ?_) (fun hc_3 => ?_)
  · have h := ift hc_3 h
    refine lv_iconst (pc := 63) (v := (-1)) hx hb dX10_entry_63 (by decide) ?_
    exact x_iret (pc := 64) (v := ((-1), v_entries, 0, v_entryControl, v_entryIndex, v_entrySection, v_entryTrack)) C (Option.some.inj h) rfl hw dX10_entry_64
  · have h := iff' hc_3 h
    refine lv_iload_n (pc := 17) hx hb dX10_entry_17 rfl (lv_at hl 2 rfl) ?_
    refine lv_i2l (pc := 18) hx hb dX10_entry_18 rfl ?_
    refine lv_lconst (pc := 19) (v := 0) hx hb dX10_entry_19 (by decide) ?_
    refine lv_ldc2 (pc := 20) (own := RX10) (v := 15) hx hb C.2.2.2.1 (C.2.2.2.2.1 _ tw_1204) dX10_entry_20 ?_
    obtain ⟨r_4, hq_5, h⟩ := nt1_at h
    refine x_callS (pc := 23) (rest := []) (stk := [.int r_4]) (wX10_entry cB cI cZ av a_this 0 v_size v_begins v_entries v_length v_pressed v_streamFrames v_zeros v_level v_sum v_tail v_isPlayed v_found v_strange v_innerFails v_outerFails v_mostMarks v_unsure v_may v_mocks v_sumThen v_entryControl v_entryIndex v_entrySection v_entryTrack) C hw (ct_X10_in l D cB cI cZ tw av (Int32.toInt64 x2) 0 15 r_4 hq_5.symm) cal_X10_in tw_1176 [] [0, 1, 2, 3, 4] 5 [oX10 a_this av 0 v_size v_begins v_entries v_length v_pressed v_streamFrames v_zeros v_level v_sum v_tail v_isPlayed v_found v_strange v_innerFails v_outerFails v_mostMarks v_unsure v_may v_mocks v_sumThen, ((av 10), .inl (cI, 20, .inl v_entryControl)), ((av 12), .inl (cI, 20, .inl v_entryIndex)), ((av 9), .inl (cI, 20, .inl v_entrySection)), ((av 11), .inl (cI, 20, .inl v_entryTrack))] rfl rfl rfl rfl rfl rfl rfl rfl rfl rfl rfl (Nat.le_of_ble_eq_true rfl) hl.1 ⟨Nat.le_of_ble_eq_true rfl, Nat.le_of_ble_eq_true rfl⟩ ⟨Nat.zero_le _, Nat.zero_le _⟩ dX10_entry_23 (fun H locs hw => ?_)
    refine lv_if_eq (pc := 26) (tgt := 63) hx hb dX10_entry_26 (by decide) (fun hc_6 => ?_) (fun hc_6 => ?_)
    · have h := ift hc_6 h
      refine lv_iconst (pc := 63) (v := (-1)) hx hb dX10_entry_63 (by decide) ?_
      exact x_iret (pc := 64) (v := ((-1), v_entries, 0, v_entryControl, v_entryIndex, v_entrySection, v_entryTrack)) C (Option.some.inj h) rfl hw dX10_entry_64
    · have h := iff' hc_6 h
      refine lv_iload_n (pc := 29) hx hb dX10_entry_29 rfl (lv_at hl 3 rfl) ?_
      refine lv_i2l (pc := 30) hx hb dX10_entry_30 rfl ?_
      refine lv_lconst (pc := 31) (v := 1) hx hb dX10_entry_31 (by decide) ?_
      refine lv_ldc2 (pc := 32) (own := RX10) (v := 99) hx hb C.2.2.2.1 (C.2.2.2.2.1 _ tw_1205) dX10_entry_32 ?_
      obtain ⟨r_7, hq_8, h⟩ := nt1_at h
      refine x_callS (pc := 35) (rest := []) (stk := [.int r_7]) (wX10_entry cB cI cZ av a_this 0 v_size v_begins v_entries v_length v_pressed v_streamFrames v_zeros v_level v_sum v_tail v_isPlayed v_found v_strange v_innerFails v_outerFails v_mostMarks v_unsure v_may v_mocks v_sumThen v_entryControl v_entryIndex v_entrySection v_entryTrack) C hw (ct_X10_in l D cB cI cZ tw av (Int32.toInt64 x3) 1 99 r_7 hq_8.symm) cal_X10_in tw_1176 [] [0, 1, 2, 3, 4] 5 [oX10 a_this av 0 v_size v_begins v_entries v_length v_pressed v_streamFrames v_zeros v_level v_sum v_tail v_isPlayed v_found v_strange v_innerFails v_outerFails v_mostMarks v_unsure v_may v_mocks v_sumThen, ((av 10), .inl (cI, 20, .inl v_entryControl)), ((av 12), .inl (cI, 20, .inl v_entryIndex)), ((av 9), .inl (cI, 20, .inl v_entrySection)), ((av 11), .inl (cI, 20, .inl v_entryTrack))] rfl rfl rfl rfl rfl rfl rfl rfl rfl rfl rfl (Nat.le_of_ble_eq_true rfl) hl.1 ⟨Nat.le_of_ble_eq_true rfl, Nat.le_of_ble_eq_true rfl⟩ ⟨Nat.zero_le _, Nat.zero_le _⟩ dX10_entry_35 (fun H locs hw => ?_)
      refine lv_if_eq (pc := 38) (tgt := 63) hx hb dX10_entry_38 (by decide) (fun hc_9 => ?_) (fun hc_9 => ?_)
      · have h := ift hc_9 h
        refine lv_iconst (pc := 63) (v := (-1)) hx hb dX10_entry_63 (by decide) ?_
        exact x_iret (pc := 64) (v := ((-1), v_entries, 0, v_entryControl, v_entryIndex, v_entrySection, v_entryTrack)) C (Option.some.inj h) rfl hw dX10_entry_64
      · have h := iff' hc_9 h
        refine lv_iload (pc := 41) hx hb dX10_entry_41 (lv_at hl 4 rfl) ?_
        refine lv_i2l (pc := 43) hx hb dX10_entry_43 rfl ?_
        refine lv_lconst (pc := 44) (v := 0) hx hb dX10_entry_44 (by decide) ?_
        refine lv_ldc2 (pc := 45) (own := RX10) (v := 99) hx hb C.2.2.2.1 (C.2.2.2.2.1 _ tw_1205) dX10_entry_45 ?_
        obtain ⟨r_10, hq_11, h⟩ := nt1_at h
        refine x_callS (pc := 48) (rest := []) (stk := [.int r_10]) (wX10_entry cB cI cZ av a_this 0 v_size v_begins v_entries v_length v_pressed v_streamFrames v_zeros v_level v_sum v_tail v_isPlayed v_found v_strange v_innerFails v_outerFails v_mostMarks v_unsure v_may v_mocks v_sumThen v_entryControl v_entryIndex v_entrySection v_entryTrack) C hw (ct_X10_in l D cB cI cZ tw av (Int32.toInt64 x4) 0 99 r_10 hq_11.symm) cal_X10_in tw_1176 [] [0, 1, 2, 3, 4] 5 [oX10 a_this av 0 v_size v_begins v_entries v_length v_pressed v_streamFrames v_zeros v_level v_sum v_tail v_isPlayed v_found v_strange v_innerFails v_outerFails v_mostMarks v_unsure v_may v_mocks v_sumThen, ((av 10), .inl (cI, 20, .inl v_entryControl)), ((av 12), .inl (cI, 20, .inl v_entryIndex)), ((av 9), .inl (cI, 20, .inl v_entrySection)), ((av 11), .inl (cI, 20, .inl v_entryTrack))] rfl rfl rfl rfl rfl rfl rfl rfl rfl rfl rfl (Nat.le_of_ble_eq_true rfl) hl.1 ⟨Nat.le_of_ble_eq_true rfl, Nat.le_of_ble_eq_true rfl⟩ ⟨Nat.zero_le _, Nat.zero_le _⟩ dX10_entry_48 (fun H locs hw => ?_)
        refine lv_if_eq (pc := 51) (tgt := 63) hx hb dX10_entry_51 (by decide) (fun hc_12 => ?_) (fun hc_12 => ?_)
        · have h := ift hc_12 h
          refine lv_iconst (pc := 63) (v := (-1)) hx hb dX10_entry_63 (by decide) ?_
          exact x_iret (pc := 64) (v := ((-1), v_entries, 0, v_entryControl, v_entryIndex, v_entrySection, v_entryTrack)) C (Option.some.inj h) rfl hw dX10_entry_64
        · have h := iff' hc_12 h
          refine lv_aload_n (pc := 54) hx hb dX10_entry_54 rfl (lv_at hl 0 rfl) ?_
          refine gf_X10_166 (pc := 55) C hw 0 rfl rfl dX10_entry_55 ?_
          refine lv_bipush (pc := 58) (v := 20) hx hb dX10_entry_58 (by decide) ?_
          refine lv_icmp_ne (pc := 60) (tgt := 65) hx hb dX10_entry_60 (by decide) (fun hc_13 => ?_) (fun hc_13 => ?_)
          · have h := iff' hc_13 h
            refine lv_aload_n (pc := 65) hx hb dX10_entry_65 rfl (lv_at hl 0 rfl) ?_
            refine gf_X10_26 (pc := 66) C hw 0 rfl rfl dX10_entry_66 ?_
            refine lv_aload_n (pc := 69) hx hb dX10_entry_69 rfl (lv_at hl 0 rfl) ?_
            refine gf_X10_166 (pc := 70) C hw 0 rfl rfl dX10_entry_70 ?_
            refine lv_iload_n (pc := 73) hx hb dX10_entry_73 rfl (lv_at hl 1 rfl) ?_
            obtain ⟨hi_14, h⟩ := og_at h
            obtain ⟨v_entrySection_15, ev_entrySection_15⟩ : ∃ y : Nat → Int32, y = upd v_entrySection (Int32.toNatClampNeg v_entries) x1 := ⟨_, rfl⟩
            have h := nm_at ev_entrySection_15 h
            refine x_iast (pc := 74) (wX10_entry cB cI cZ av a_this 0 v_size v_begins v_entries v_length v_pressed v_streamFrames v_zeros v_level v_sum v_tail v_isPlayed v_found v_strange v_innerFails v_outerFails v_mostMarks v_unsure v_may v_mocks v_sumThen v_entryControl v_entryIndex v_entrySection_15 v_entryTrack) C hw 3 rfl hi_14 (by rw [ev_entrySection_15]; rfl) dX10_entry_74 (fun H locs hw => ?_)
            refine lv_aload_n (pc := 75) hx hb dX10_entry_75 rfl (lv_at hl 0 rfl) ?_
            refine gf_X10_29 (pc := 76) C hw 0 rfl rfl dX10_entry_76 ?_
            refine lv_aload_n (pc := 79) hx hb dX10_entry_79 rfl (lv_at hl 0 rfl) ?_
            refine gf_X10_166 (pc := 80) C hw 0 rfl rfl dX10_entry_80 ?_
            refine lv_iload_n (pc := 83) hx hb dX10_entry_83 rfl (lv_at hl 2 rfl) ?_
            obtain ⟨hi_16, h⟩ := og_at h
            obtain ⟨v_entryControl_17, ev_entryControl_17⟩ : ∃ y : Nat → Int32, y = upd v_entryControl (Int32.toNatClampNeg v_entries) x2 := ⟨_, rfl⟩
            have h := nm_at ev_entryControl_17 h
            refine x_iast (pc := 84) (wX10_entry cB cI cZ av a_this 0 v_size v_begins v_entries v_length v_pressed v_streamFrames v_zeros v_level v_sum v_tail v_isPlayed v_found v_strange v_innerFails v_outerFails v_mostMarks v_unsure v_may v_mocks v_sumThen v_entryControl_17 v_entryIndex v_entrySection_15 v_entryTrack) C hw 1 rfl hi_16 (by rw [ev_entryControl_17]; rfl) dX10_entry_84 (fun H locs hw => ?_)
            refine lv_aload_n (pc := 85) hx hb dX10_entry_85 rfl (lv_at hl 0 rfl) ?_
            refine gf_X10_32 (pc := 86) C hw 0 rfl rfl dX10_entry_86 ?_
            refine lv_aload_n (pc := 89) hx hb dX10_entry_89 rfl (lv_at hl 0 rfl) ?_
            refine gf_X10_166 (pc := 90) C hw 0 rfl rfl dX10_entry_90 ?_
            refine lv_iload_n (pc := 93) hx hb dX10_entry_93 rfl (lv_at hl 3 rfl) ?_
            obtain ⟨hi_18, h⟩ := og_at h
            obtain ⟨v_entryTrack_19, ev_entryTrack_19⟩ : ∃ y : Nat → Int32, y = upd v_entryTrack (Int32.toNatClampNeg v_entries) x3 := ⟨_, rfl⟩
            have h := nm_at ev_entryTrack_19 h
            refine x_iast (pc := 94) (wX10_entry cB cI cZ av a_this 0 v_size v_begins v_entries v_length v_pressed v_streamFrames v_zeros v_level v_sum v_tail v_isPlayed v_found v_strange v_innerFails v_outerFails v_mostMarks v_unsure v_may v_mocks v_sumThen v_entryControl_17 v_entryIndex v_entrySection_15 v_entryTrack_19) C hw 4 rfl hi_18 (by rw [ev_entryTrack_19]; rfl) dX10_entry_94 (fun H locs hw => ?_)
            refine lv_aload_n (pc := 95) hx hb dX10_entry_95 rfl (lv_at hl 0 rfl) ?_
            refine gf_X10_35 (pc := 96) C hw 0 rfl rfl dX10_entry_96 ?_
            refine lv_aload_n (pc := 99) hx hb dX10_entry_99 rfl (lv_at hl 0 rfl) ?_
            refine gf_X10_166 (pc := 100) C hw 0 rfl rfl dX10_entry_100 ?_
            refine lv_iload (pc := 103) hx hb dX10_entry_103 (lv_at hl 4 rfl) ?_
            obtain ⟨hi_20, h⟩ := og_at h
            obtain ⟨v_entryIndex_21, ev_entryIndex_21⟩ : ∃ y : Nat → Int32, y = upd v_entryIndex (Int32.toNatClampNeg v_entries) x4 := ⟨_, rfl⟩
            have h := nm_at ev_entryIndex_21 h
            refine x_iast (pc := 105) (wX10_entry cB cI cZ av a_this 0 v_size v_begins v_entries v_length v_pressed v_streamFrames v_zeros v_level v_sum v_tail v_isPlayed v_found v_strange v_innerFails v_outerFails v_mostMarks v_unsure v_may v_mocks v_sumThen v_entryControl_17 v_entryIndex_21 v_entrySection_15 v_entryTrack_19) C hw 2 rfl hi_20 (by rw [ev_entryIndex_21]; rfl) dX10_entry_105 (fun H locs hw => ?_)
            refine lv_aload_n (pc := 106) hx hb dX10_entry_106 rfl (lv_at hl 0 rfl) ?_
            refine lv_dup (pc := 107) hx hb dX10_entry_107 rfl ?_
            refine gf_X10_166 (pc := 108) C hw 0 rfl rfl dX10_entry_108 ?_
            refine lv_iconst (pc := 111) (v := 1) hx hb dX10_entry_111 (by decide) ?_
            refine lv_iadd (pc := 112) hx hb dX10_entry_112 ?_
            refine lv_topi (pc := 113) (fun v_entries_22 ev_entries_22 => ?_)
            have h := nm_at ev_entries_22 h
            refine pf_X10_166 (pc := 113) (wX10_entry cB cI cZ av a_this 0 v_size v_begins v_entries_22 v_length v_pressed v_streamFrames v_zeros v_level v_sum v_tail v_isPlayed v_found v_strange v_innerFails v_outerFails v_mostMarks v_unsure v_may v_mocks v_sumThen v_entryControl_17 v_entryIndex_21 v_entrySection_15 v_entryTrack_19) C hw 0 rfl rfl rfl rfl (Nat.le_of_ble_eq_true rfl) dX10_entry_113 (fun H locs hw => ?_)
            refine lv_aload_n (pc := 116) hx hb dX10_entry_116 rfl (lv_at hl 0 rfl) ?_
            refine gf_X10_166 (pc := 117) C hw 0 rfl rfl dX10_entry_117 ?_
            exact x_iret (pc := 120) (v := (v_entries_22, v_entries_22, 0, v_entryControl_17, v_entryIndex_21, v_entrySection_15, v_entryTrack_19)) C (Option.some.inj h) rfl hw dX10_entry_120
          · have h := ift hc_13 h
            refine lv_iconst (pc := 63) (v := (-1)) hx hb dX10_entry_63 (by decide) ?_
            exact x_iret (pc := 64) (v := ((-1), v_entries, 0, v_entryControl, v_entryIndex, v_entrySection, v_entryTrack)) C (Option.some.inj h) rfl hw dX10_entry_64
def wX10_plain (cB cI cZ : ClassId) (av : Nat → Nat) (a_this : Nat) (v_thrown : Int32) (v_size : Int32) (v_begins : Int32) (v_entries : Int32) (v_length : Int32) (v_pressed : Int32) (v_streamFrames : Int32) (v_zeros : Int32) (v_level : Int32) (v_sum : Int32) (v_tail : Int32) (v_isPlayed : Int32) (v_found : Int32) (v_strange : Int32) (v_innerFails : Int32) (v_outerFails : Int32) (v_mostMarks : Int32) (v_unsure : Int32) (v_may : Int32) (v_mocks : Int32) (v_sumThen : Int32) : va_W := [oX10 a_this av v_thrown v_size v_begins v_entries v_length v_pressed v_streamFrames v_zeros v_level v_sum v_tail v_isPlayed v_found v_strange v_innerFails v_outerFails v_mostMarks v_unsure v_may v_mocks v_sumThen]
def fX10_plain (v_entries : Int32) (v_thrown : Int32) : Int32 × Int32 × Int32 := (v_entries, 0, 0)
set_option maxHeartbeats 4000000 in
set_option maxRecDepth 100000 in
theorem ct_X10_plain (l : Launch) (D : va_G) (cB cI cZ : ClassId) (tw : Nat) (av : Nat → Nat) (a_this : Nat) (v_thrown : Int32) (v_size : Int32) (v_begins : Int32) (v_entries : Int32) (v_length : Int32) (v_pressed : Int32) (v_streamFrames : Int32) (v_zeros : Int32) (v_level : Int32) (v_sum : Int32) (v_tail : Int32) (v_isPlayed : Int32) (v_found : Int32) (v_strange : Int32) (v_innerFails : Int32) (v_outerFails : Int32) (v_mostMarks : Int32) (v_unsure : Int32) (v_may : Int32) (v_mocks : Int32) (v_sumThen : Int32) (res : Int32 × Int32 × Int32) (h : fX10_plain v_entries v_thrown = res) : Ctr l yX10_plain cX10_plain 2 (some .int) (rmK 0 0) D (tyL cB cI cZ) tw [.ref a_this] (wX10_plain cB cI cZ av a_this v_thrown v_size v_begins v_entries v_length v_pressed v_streamFrames v_zeros v_level v_sum v_tail v_isPlayed v_found v_strange v_innerFails v_outerFails v_mostMarks v_unsure v_may v_mocks v_sumThen) (fun res : Int32 × Int32 × Int32 => some (.int res.1)) (fun res : Int32 × Int32 × Int32 => (wX10_plain cB cI cZ av a_this (res.2.2) v_size v_begins (res.2.1) v_length v_pressed v_streamFrames v_zeros v_level v_sum v_tail v_isPlayed v_found v_strange v_innerFails v_outerFails v_mostMarks v_unsure v_may v_mocks v_sumThen)) res := by
  refine ctr_of RX10 (by decide) rfl (Nat.le_of_ble_eq_true rfl) ?_
  intro p e s m below meth c A C hw ls hl
  have hx := C.1
  have hb := C.2.1
  have hl : lv_has ls 2 [(0, .ref a_this)] := hl
  unfold fX10_plain at h
  refine lv_aload_n (pc := 0) hx hb dX10_plain_0 rfl (lv_at hl 0 rfl) ?_
  refine lv_iconst (pc := 1) (v := 0) hx hb dX10_plain_1 (by decide) ?_
  refine pf_X10_100 (pc := 2) (wX10_plain cB cI cZ av a_this 0 v_size v_begins v_entries v_length v_pressed v_streamFrames v_zeros v_level v_sum v_tail v_isPlayed v_found v_strange v_innerFails v_outerFails v_mostMarks v_unsure v_may v_mocks v_sumThen) C hw 0 rfl rfl rfl rfl (Nat.le_of_ble_eq_true rfl) dX10_plain_2 (fun H locs hw => ?_)
  refine lv_aload_n (pc := 5) hx hb dX10_plain_5 rfl (lv_at hl 0 rfl) ?_
  refine gf_X10_166 (pc := 6) C hw 0 rfl rfl dX10_plain_6 ?_
  refine lv_istore_n (pc := 9) (lv' := [(1, .int v_entries), (0, .ref a_this)]) hx hb dX10_plain_9 rfl hl (by decide) rfl (fun ls hl => ?_)
  refine lv_aload_n (pc := 10) hx hb dX10_plain_10 rfl (lv_at hl 1 rfl) ?_
  refine lv_iconst (pc := 11) (v := 0) hx hb dX10_plain_11 (by decide) ?_
  refine pf_X10_166 (pc := 12) (wX10_plain cB cI cZ av a_this 0 v_size v_begins 0 v_length v_pressed v_streamFrames v_zeros v_level v_sum v_tail v_isPlayed v_found v_strange v_innerFails v_outerFails v_mostMarks v_unsure v_may v_mocks v_sumThen) C hw 0 rfl rfl rfl rfl (Nat.le_of_ble_eq_true rfl) dX10_plain_12 (fun H locs hw => ?_)
  refine lv_iload_n (pc := 15) hx hb dX10_plain_15 rfl (lv_at hl 0 rfl) ?_
  exact x_iret (pc := 16) (v := (v_entries, 0, 0)) C h rfl hw dX10_plain_16
def wX10_streamByte (cB cI cZ : ClassId) (av : Nat → Nat) (a_this : Nat) (v_thrown : Int32) (v_size : Int32) (v_begins : Int32) (v_entries : Int32) (v_length : Int32) (v_pressed : Int32) (v_streamFrames : Int32) (v_zeros : Int32) (v_level : Int32) (v_sum : Int32) (v_tail : Int32) (v_isPlayed : Int32) (v_found : Int32) (v_strange : Int32) (v_innerFails : Int32) (v_outerFails : Int32) (v_mostMarks : Int32) (v_unsure : Int32) (v_may : Int32) (v_mocks : Int32) (v_sumThen : Int32) (v_stream : Nat → Int32) : va_W := [oX10 a_this av v_thrown v_size v_begins v_entries v_length v_pressed v_streamFrames v_zeros v_level v_sum v_tail v_isPlayed v_found v_strange v_innerFails v_outerFails v_mostMarks v_unsure v_may v_mocks v_sumThen, ((av 5), .inl (cB, 11712, .inl v_stream))]
def fX10_streamByte (v_size : Int32) (v_streamFrames : Int32) (v_stream : Nat → Int32) (x1 : Int32) (x2 : Int32) : Option (Int32) := nm ((((24 : Int32) * x1) + x2) : Int32) fun x3_1 => if x1 < 0 then some 0 else if v_streamFrames ≤ x1 then some 0 else if v_size ≤ x3_1 then some 0 else og (ixb x3_1 11712) (some ((v_stream (Int32.toNatClampNeg x3_1)) &&& (255 : Int32)))
set_option maxHeartbeats 4000000 in
set_option maxRecDepth 100000 in
theorem ct_X10_streamByte (l : Launch) (D : va_G) (cB cI cZ : ClassId) (tw : Nat) (av : Nat → Nat) (a_this : Nat) (v_thrown : Int32) (v_size : Int32) (v_begins : Int32) (v_entries : Int32) (v_length : Int32) (v_pressed : Int32) (v_streamFrames : Int32) (v_zeros : Int32) (v_level : Int32) (v_sum : Int32) (v_tail : Int32) (v_isPlayed : Int32) (v_found : Int32) (v_strange : Int32) (v_innerFails : Int32) (v_outerFails : Int32) (v_mostMarks : Int32) (v_unsure : Int32) (v_may : Int32) (v_mocks : Int32) (v_sumThen : Int32) (v_stream : Nat → Int32) (x1 : Int32) (x2 : Int32) (res : Int32) (h : fX10_streamByte v_size v_streamFrames v_stream x1 x2 = some res) : Ctr l yX10_streamByte cX10_streamByte 4 (some .int) (rmK 0 0) D (tyL cB cI cZ) tw [.ref a_this, .int x1, .int x2] (wX10_streamByte cB cI cZ av a_this v_thrown v_size v_begins v_entries v_length v_pressed v_streamFrames v_zeros v_level v_sum v_tail v_isPlayed v_found v_strange v_innerFails v_outerFails v_mostMarks v_unsure v_may v_mocks v_sumThen v_stream) (fun res : Int32 => some (.int res)) (fun res : Int32 => (wX10_streamByte cB cI cZ av a_this v_thrown v_size v_begins v_entries v_length v_pressed v_streamFrames v_zeros v_level v_sum v_tail v_isPlayed v_found v_strange v_innerFails v_outerFails v_mostMarks v_unsure v_may v_mocks v_sumThen v_stream)) res := by
  refine ctr_of RX10 (by decide) rfl (Nat.le_of_ble_eq_true rfl) ?_
  intro p e s m below meth c A C hw ls hl
  have hx := C.1
  have hb := C.2.1
  have hl : lv_has ls 4 [(0, .ref a_this), (1, .int x1), (2, .int x2)] := hl
  unfold fX10_streamByte at h
  refine lv_bipush (pc := 0) (v := 24) hx hb dX10_streamByte_0 (by decide) ?_
  refine lv_iload_n (pc := 2) hx hb dX10_streamByte_2 rfl (lv_at hl 1 rfl) ?_
  refine lv_imul (pc := 3) hx hb dX10_streamByte_3 ?_
  refine lv_iload_n (pc := 4) hx hb dX10_streamByte_4 rfl (lv_at hl 2 rfl) ?_
  refine lv_iadd (pc := 5) hx hb dX10_streamByte_5 ?_
  refine lv_topi (pc := 6) (fun x3_1 ex3_1 => ?_)
  have h := nm_at ex3_1 h
  refine lv_istore_n (pc := 6) (lv' := [(3, .int x3_1), (0, .ref a_this), (1, .int x1), (2, .int x2)]) hx hb dX10_streamByte_6 rfl hl (by decide) rfl (fun ls hl => ?_)
  refine lv_iload_n (pc := 7) hx hb dX10_streamByte_7 rfl (lv_at hl 2 rfl) ?_
  refine lv_if_lt (pc := 8) (tgt := 40) hx hb dX10_streamByte_8 (by decide) (fun hc_2 => ?_) (fun hc_2 => ?_)
  · have h := ift hc_2 h
    refine lv_iconst (pc := 40) (v := 0) hx hb dX10_streamByte_40 (by decide) ?_
    exact x_iret (pc := 41) (v := 0) C (Option.some.inj h) rfl hw dX10_streamByte_41
  · have h := iff' hc_2 h
    refine lv_iload_n (pc := 11) hx hb dX10_streamByte_11 rfl (lv_at hl 2 rfl) ?_
    refine lv_aload_n (pc := 12) hx hb dX10_streamByte_12 rfl (lv_at hl 1 rfl) ?_
    refine gf_X10_169 (pc := 13) C hw 0 rfl rfl dX10_streamByte_13 ?_
    refine lv_icmp_ge (pc := 16) (tgt := 40) hx hb dX10_streamByte_16 (by decide) (fun hc_3 => ?_) (fun hc_3 => ?_)
    · have h := ift hc_3 h
      refine lv_iconst (pc := 40) (v := 0) hx hb dX10_streamByte_40 (by decide) ?_
      exact x_iret (pc := 41) (v := 0) C (Option.some.inj h) rfl hw dX10_streamByte_41
    · have h := iff' hc_3 h
      refine lv_iload_n (pc := 19) hx hb dX10_streamByte_19 rfl (lv_at hl 0 rfl) ?_
      refine lv_aload_n (pc := 20) hx hb dX10_streamByte_20 rfl (lv_at hl 1 rfl) ?_
      refine gf_X10_148 (pc := 21) C hw 0 rfl rfl dX10_streamByte_21 ?_
      refine lv_icmp_ge (pc := 24) (tgt := 40) hx hb dX10_streamByte_24 (by decide) (fun hc_4 => ?_) (fun hc_4 => ?_)
      · have h := ift hc_4 h
        refine lv_iconst (pc := 40) (v := 0) hx hb dX10_streamByte_40 (by decide) ?_
        exact x_iret (pc := 41) (v := 0) C (Option.some.inj h) rfl hw dX10_streamByte_41
      · have h := iff' hc_4 h
        refine lv_aload_n (pc := 27) hx hb dX10_streamByte_27 rfl (lv_at hl 1 rfl) ?_
        refine gf_X10_22 (pc := 28) C hw 0 rfl rfl dX10_streamByte_28 ?_
        refine lv_iload_n (pc := 31) hx hb dX10_streamByte_31 rfl (lv_at hl 0 rfl) ?_
        obtain ⟨hi_5, h⟩ := og_at h
        refine x_bald (pc := 32) C hw 1 rfl hi_5 dX10_streamByte_32 ?_
        refine lv_sipush (pc := 33) (v := 255) hx hb dX10_streamByte_33 (by decide) ?_
        refine lv_iand (pc := 36) hx hb dX10_streamByte_36 ?_
        refine lv_goto (pc := 37) (tgt := 41) hx hb dX10_streamByte_37 (by decide) ?_
        exact x_iret (pc := 41) (v := ((v_stream (Int32.toNatClampNeg x3_1)) &&& (255 : Int32))) C (Option.some.inj h) rfl hw dX10_streamByte_41
def wX10_byteAt (cB cI cZ : ClassId) (av : Nat → Nat) : va_W := []
def fX10_byteAt (x0 : Int32) : Int32 := jk (fun (t_1 : Int32) => jk (fun (t_3 : Int32) => nm ((((2 : Int32) * ((t_1 - t_1 / (6 : Int32) * (6 : Int32)) / (2 : Int32))) + t_3) : Int32) fun x2_5 => ((((4 : Int32) * x2_5) + ((2 : Int32) * (t_1 / (6 : Int32)))) + (t_1 - t_1 / (2 : Int32) * (2 : Int32)))) fun j34_4 => if (12 : Int32) ≤ x0 then j34_4 1 else j34_4 0) fun j14_2 => if (12 : Int32) ≤ x0 then j14_2 (x0 - (16 : Int32)) else j14_2 x0
set_option maxHeartbeats 4000000 in
set_option maxRecDepth 100000 in
theorem ct_X10_byteAt (l : Launch) (D : va_G) (cB cI cZ : ClassId) (tw : Nat) (av : Nat → Nat) (x0 : Int32) (res : Int32) (h : fX10_byteAt x0 = res) : Ctr l yX10_byteAt cX10_byteAt 3 (some .int) (rmK 0 0) D (tyL cB cI cZ) tw [.int x0] (wX10_byteAt cB cI cZ av) (fun res : Int32 => some (.int res)) (fun res : Int32 => (wX10_byteAt cB cI cZ av)) res := by
  refine ctr_of RX10 (by decide) rfl (Nat.le_of_ble_eq_true rfl) ?_
  intro p e s m below meth c A C hw ls hl
  have hx := C.1
  have hb := C.2.1
  have hl : lv_has ls 3 [(0, .int x0)] := hl
  unfold fX10_byteAt at h
  refine lv_iload_n (pc := 0) hx hb dX10_byteAt_0 rfl (lv_at hl 0 rfl) ?_
  refine lv_bipush (pc := 1) (v := 12) hx hb dX10_byteAt_1 (by decide) ?_
  obtain ⟨j14_2, ej14_2, h⟩ := jk_at h
  have J14_2 : ∀ (t_1 : Int32) (ls : Array Slot) (H : Heap) (locs : List Loc), lv_has ls 3 [(0, .int x0)] → Wd D A s (wX10_byteAt cB cI cZ av) H locs → j14_2 t_1 = res → W p l e (rmK 0 0) s m ([.int x0] : List Value).toArray below meth c H locs 0 0 (MQ below (QG D (tyL cB cI cZ) A (fun res : Int32 => some (.int res)) (fun res : Int32 => (wX10_byteAt cB cI cZ av)) res) ([.int x0] : List Value).toArray s 0 0 A) (F0 m 14 ls [.int t_1]) := by
    intro t_1 ls H locs hl hw h
    have h := k1_at ej14_2 h
    refine lv_istore_n (pc := 14) (lv' := [(1, .int t_1), (0, .int x0)]) hx hb dX10_byteAt_14 rfl hl (by decide) rfl (fun ls hl => ?_)
    refine lv_iconst (pc := 15) (v := 2) hx hb dX10_byteAt_15 (by decide) ?_
    refine lv_iload_n (pc := 16) hx hb dX10_byteAt_16 rfl (lv_at hl 0 rfl) ?_
    refine lv_bipush (pc := 17) (v := 6) hx hb dX10_byteAt_17 (by decide) ?_
    refine lv_irem (pc := 19) hx hb dX10_byteAt_19 (by decide) ?_
    refine lv_iconst (pc := 20) (v := 2) hx hb dX10_byteAt_20 (by decide) ?_
    refine lv_idiv (pc := 21) hx hb dX10_byteAt_21 (by decide) ?_
    refine lv_imul (pc := 22) hx hb dX10_byteAt_22 ?_
    refine lv_iload_n (pc := 23) hx hb dX10_byteAt_23 rfl (lv_at hl 1 rfl) ?_
    refine lv_bipush (pc := 24) (v := 12) hx hb dX10_byteAt_24 (by decide) ?_
    obtain ⟨j34_4, ej34_4, h⟩ := jk_at h
    have J34_4 : ∀ (t_3 : Int32) (ls : Array Slot) (H : Heap) (locs : List Loc), lv_has ls 3 [(1, .int t_1)] → Wd D A s (wX10_byteAt cB cI cZ av) H locs → j34_4 t_3 = res → W p l e (rmK 0 0) s m ([.int x0] : List Value).toArray below meth c H locs 0 0 (MQ below (QG D (tyL cB cI cZ) A (fun res : Int32 => some (.int res)) (fun res : Int32 => (wX10_byteAt cB cI cZ av)) res) ([.int x0] : List Value).toArray s 0 0 A) (F0 m 34 ls [.int t_3, .int ((2 : Int32) * ((t_1 - t_1 / (6 : Int32) * (6 : Int32)) / (2 : Int32)))]) := by
      intro t_3 ls H locs hl hw h
      have h := k1_at ej34_4 h
      refine lv_iadd (pc := 34) hx hb dX10_byteAt_34 ?_
      refine lv_topi (pc := 35) (fun x2_5 ex2_5 => ?_)
      have h := nm_at ex2_5 h
      refine lv_istore_n (pc := 35) (lv' := [(2, .int x2_5), (1, .int t_1)]) hx hb dX10_byteAt_35 rfl hl (by decide) rfl (fun ls hl => ?_)
      refine lv_iconst (pc := 36) (v := 4) hx hb dX10_byteAt_36 (by decide) ?_
      refine lv_iload_n (pc := 37) hx hb dX10_byteAt_37 rfl (lv_at hl 0 rfl) ?_
      refine lv_imul (pc := 38) hx hb dX10_byteAt_38 ?_
      refine lv_iconst (pc := 39) (v := 2) hx hb dX10_byteAt_39 (by decide) ?_
      refine lv_iload_n (pc := 40) hx hb dX10_byteAt_40 rfl (lv_at hl 1 rfl) ?_
      refine lv_bipush (pc := 41) (v := 6) hx hb dX10_byteAt_41 (by decide) ?_
      refine lv_idiv (pc := 43) hx hb dX10_byteAt_43 (by decide) ?_
      refine lv_imul (pc := 44) hx hb dX10_byteAt_44 ?_
      refine lv_iadd (pc := 45) hx hb dX10_byteAt_45 ?_
      refine lv_iload_n (pc := 46) hx hb dX10_byteAt_46 rfl (lv_at hl 1 rfl) ?_
      refine lv_iconst (pc := 47) (v := 2) hx hb dX10_byteAt_47 (by decide) ?_
      refine lv_irem (pc := 48) hx hb dX10_byteAt_48 (by decide) ?_
      refine lv_iadd (pc := 49) hx hb dX10_byteAt_49 ?_
      exact x_iret (pc := 50) (v := ((((4 : Int32) * x2_5) + ((2 : Int32) * (t_1 / (6 : Int32)))) + (t_1 - t_1 / (2 : Int32) * (2 : Int32)))) C h rfl hw dX10_byteAt_50
    refine lv_icmp_ge (pc := 26) (tgt := 33) hx hb dX10_byteAt_26 (by decide) (fun hc_6 => ?_) (fun hc_6 => ?_)
    · have h := ift hc_6 h
      refine lv_iconst (pc := 33) (v := 1) hx hb dX10_byteAt_33 (by decide) ?_
      exact J34_4 1 ls _ _ (lv_sub hl [0] rfl) hw h
    · have h := iff' hc_6 h
      refine lv_iconst (pc := 29) (v := 0) hx hb dX10_byteAt_29 (by decide) ?_
      refine lv_goto (pc := 30) (tgt := 34) hx hb dX10_byteAt_30 (by decide) ?_
      exact J34_4 0 ls _ _ (lv_sub hl [0] rfl) hw h
  refine lv_icmp_ge (pc := 3) (tgt := 10) hx hb dX10_byteAt_3 (by decide) (fun hc_7 => ?_) (fun hc_7 => ?_)
  · have h := ift hc_7 h
    refine lv_iload_n (pc := 10) hx hb dX10_byteAt_10 rfl (lv_at hl 0 rfl) ?_
    refine lv_bipush (pc := 11) (v := 16) hx hb dX10_byteAt_11 (by decide) ?_
    refine lv_isub (pc := 13) hx hb dX10_byteAt_13 ?_
    exact J14_2 (x0 - (16 : Int32)) ls _ _ (lv_sub hl [0] rfl) hw h
  · have h := iff' hc_7 h
    refine lv_iload_n (pc := 6) hx hb dX10_byteAt_6 rfl (lv_at hl 0 rfl) ?_
    refine lv_goto (pc := 7) (tgt := 14) hx hb dX10_byteAt_7 (by decide) ?_
    exact J14_2 x0 ls _ _ (lv_sub hl [0] rfl) hw h
def wX10_makeOuter (cB cI cZ : ClassId) (av : Nat → Nat) (a_this : Nat) (v_thrown : Int32) (v_size : Int32) (v_begins : Int32) (v_entries : Int32) (v_length : Int32) (v_pressed : Int32) (v_streamFrames : Int32) (v_zeros : Int32) (v_level : Int32) (v_sum : Int32) (v_tail : Int32) (v_isPlayed : Int32) (v_found : Int32) (v_strange : Int32) (v_innerFails : Int32) (v_outerFails : Int32) (v_mostMarks : Int32) (v_unsure : Int32) (v_may : Int32) (v_mocks : Int32) (v_sumThen : Int32) (v_logs : Nat → Int32) (v_marked : Nat → Int32) (v_outers : Nat → Int32) (v_places : Nat → Int32) (v_powers : Nat → Int32) (v_rows : Nat → Int32) (v_stream : Nat → Int32) (v_syndromes : Nat → Int32) (v_values : Nat → Int32) (v_word : Nat → Int32) : va_W := [oX10 a_this av v_thrown v_size v_begins v_entries v_length v_pressed v_streamFrames v_zeros v_level v_sum v_tail v_isPlayed v_found v_strange v_innerFails v_outerFails v_mostMarks v_unsure v_may v_mocks v_sumThen, ((av 4), .inl (cI, 256, .inl v_logs)), ((av 23), .inl (cZ, 32, .inl v_marked)), ((av 31), .inl (cI, 17920, .inl v_outers)), ((av 25), .inl (cI, 4, .inl v_places)), ((av 3), .inl (cI, 512, .inl v_powers)), ((av 27), .inl (cI, 20, .inl v_rows)), ((av 5), .inl (cB, 11712, .inl v_stream)), ((av 24), .inl (cI, 4, .inl v_syndromes)), ((av 26), .inl (cI, 4, .inl v_values)), ((av 22), .inl (cI, 32, .inl v_word))]
def fX10_makeOuter_L60 (v_marked_3 : Nat → Int32) (v_places_4 : Nat → Int32) (v_rows_5 : Nat → Int32) (v_syndromes_6 : Nat → Int32) (v_values_7 : Nat → Int32) (v_word_8 : Nat → Int32) (x1 : Int32) : Nat → Int32 → (Nat → Int32) → Option ((Nat → Int32) × (Nat → Int32) × (Nat → Int32) × (Nat → Int32) × (Nat → Int32) × (Nat → Int32) × (Nat → Int32))
  | 0, _, _ => none
  | F60_12 + 1, x2_10, v_outers_11 => if (28 : Int32) ≤ x2_10 then some (v_marked_3, v_outers_11, v_places_4, v_rows_5, v_syndromes_6, v_values_7, v_word_8) else og (ixb x2_10 32) (og (ixb (((28 : Int32) * x1) + x2_10) 17920) (nm (upd v_outers_11 (Int32.toNatClampNeg (((28 : Int32) * x1) + x2_10)) (v_word_8 (Int32.toNatClampNeg x2_10))) fun v_outers_16 => nm (x2_10 + 1 : Int32) fun x2_17 => fX10_makeOuter_L60 v_marked_3 v_places_4 v_rows_5 v_syndromes_6 v_values_7 v_word_8 x1 F60_12 x2_17 v_outers_16))
def fX10_makeOuter_L2 (j53_2 : (Nat → Int32) → Option ((Nat → Int32) × (Nat → Int32) × (Nat → Int32) × (Nat → Int32) × (Nat → Int32) × (Nat → Int32) × (Nat → Int32))) (v_size : Int32) (v_streamFrames : Int32) (v_stream : Nat → Int32) (x1 : Int32) : Nat → Int32 → (Nat → Int32) → Option ((Nat → Int32) × (Nat → Int32) × (Nat → Int32) × (Nat → Int32) × (Nat → Int32) × (Nat → Int32) × (Nat → Int32))
  | 0, _, _ => none
  | F2_20 + 1, x2_18, v_word_19 => if (28 : Int32) ≤ x2_18 then j53_2 v_word_19 else nt1 (fX10_isCheck 0 x2_18) fun r_22 => jk (fun (t_24 : Int32) => og (ixb x2_18 32) (nm (upd v_word_19 (Int32.toNatClampNeg x2_18) t_24) fun v_word_27 => nm (x2_18 + 1 : Int32) fun x2_28 => fX10_makeOuter_L2 j53_2 v_size v_streamFrames v_stream x1 F2_20 x2_28 v_word_27)) fun j46_25 => if r_22 = 0 then jk (fun (t_30 : Int32) => nt1 (fX10_byteAt x2_18) fun r_32 => ob1 (fX10_streamByte v_size v_streamFrames v_stream t_30 r_32) fun r_34 => j46_25 r_34) fun j39_31 => if (12 : Int32) ≤ x2_18 then j39_31 x1 else j39_31 (x1 - (2 : Int32)) else j46_25 0
def fX10_makeOuter (v_size : Int32) (v_streamFrames : Int32) (v_logs : Nat → Int32) (v_marked : Nat → Int32) (v_outers : Nat → Int32) (v_places : Nat → Int32) (v_powers : Nat → Int32) (v_rows : Nat → Int32) (v_stream : Nat → Int32) (v_syndromes : Nat → Int32) (v_values : Nat → Int32) (v_word : Nat → Int32) (x1 : Int32) : Option ((Nat → Int32) × (Nat → Int32) × (Nat → Int32) × (Nat → Int32) × (Nat → Int32) × (Nat → Int32) × (Nat → Int32)) := jk (fun (v_word_1 : Nat → Int32) => ob6 (fX10_check v_logs v_marked v_places v_powers v_rows v_syndromes v_values v_word_1 0) fun v_marked_3 v_places_4 v_rows_5 v_syndromes_6 v_values_7 v_word_8 => fX10_makeOuter_L60 v_marked_3 v_places_4 v_rows_5 v_syndromes_6 v_values_7 v_word_8 x1 FU 0 v_outers) fun j53_2 => fX10_makeOuter_L2 j53_2 v_size v_streamFrames v_stream x1 FU 0 v_word
set_option maxHeartbeats 4000000 in
set_option maxRecDepth 100000 in
theorem ct_X10_makeOuter (l : Launch) (D : va_G) (cB cI cZ : ClassId) (tw : Nat) (av : Nat → Nat) (a_this : Nat) (v_thrown : Int32) (v_size : Int32) (v_begins : Int32) (v_entries : Int32) (v_length : Int32) (v_pressed : Int32) (v_streamFrames : Int32) (v_zeros : Int32) (v_level : Int32) (v_sum : Int32) (v_tail : Int32) (v_isPlayed : Int32) (v_found : Int32) (v_strange : Int32) (v_innerFails : Int32) (v_outerFails : Int32) (v_mostMarks : Int32) (v_unsure : Int32) (v_may : Int32) (v_mocks : Int32) (v_sumThen : Int32) (v_logs : Nat → Int32) (v_marked : Nat → Int32) (v_outers : Nat → Int32) (v_places : Nat → Int32) (v_powers : Nat → Int32) (v_rows : Nat → Int32) (v_stream : Nat → Int32) (v_syndromes : Nat → Int32) (v_values : Nat → Int32) (v_word : Nat → Int32) (x1 : Int32) (res : (Nat → Int32) × (Nat → Int32) × (Nat → Int32) × (Nat → Int32) × (Nat → Int32) × (Nat → Int32) × (Nat → Int32)) (h : fX10_makeOuter v_size v_streamFrames v_logs v_marked v_outers v_places v_powers v_rows v_stream v_syndromes v_values v_word x1 = some res) : Ctr l yX10_makeOuter cX10_makeOuter 3 none (rmK 4 102) D (tyL cB cI cZ) tw [.ref a_this, .int x1] (wX10_makeOuter cB cI cZ av a_this v_thrown v_size v_begins v_entries v_length v_pressed v_streamFrames v_zeros v_level v_sum v_tail v_isPlayed v_found v_strange v_innerFails v_outerFails v_mostMarks v_unsure v_may v_mocks v_sumThen v_logs v_marked v_outers v_places v_powers v_rows v_stream v_syndromes v_values v_word) (fun _ : (Nat → Int32) × (Nat → Int32) × (Nat → Int32) × (Nat → Int32) × (Nat → Int32) × (Nat → Int32) × (Nat → Int32) => none) (fun res : (Nat → Int32) × (Nat → Int32) × (Nat → Int32) × (Nat → Int32) × (Nat → Int32) × (Nat → Int32) × (Nat → Int32) => (wX10_makeOuter cB cI cZ av a_this v_thrown v_size v_begins v_entries v_length v_pressed v_streamFrames v_zeros v_level v_sum v_tail v_isPlayed v_found v_strange v_innerFails v_outerFails v_mostMarks v_unsure v_may v_mocks v_sumThen v_logs (res.1) (res.2.1) (res.2.2.1) v_powers (res.2.2.2.1) v_stream (res.2.2.2.2.1) (res.2.2.2.2.2.1) (res.2.2.2.2.2.2))) res := by
  refine ctr_of RX10 (by decide) rfl (Nat.le_of_ble_eq_true rfl) ?_
  intro p e s m below meth c A C hw ls hl
  have hx := C.1
  have hb := C.2.1
  have hl : lv_has ls 3 [(0, .ref a_this), (1, .int x1)] := hl
  unfold fX10_makeOuter at h
  refine lv_iconst (pc := 0) (v := 0) hx hb dX10_makeOuter_0 (by decide) ?_
  refine lv_istore_n (pc := 1) (lv' := [(2, .int 0), (0, .ref a_this), (1, .int x1)]) hx hb dX10_makeOuter_1 rfl hl (by decide) rfl (fun ls hl => ?_)
  obtain ⟨j53_2, ej53_2, h⟩ := jk_at h
  have J53_2 : ∀ (v_word_1 : Nat → Int32) (ls : Array Slot) (H : Heap) (locs : List Loc), lv_has ls 3 [(0, .ref a_this), (1, .int x1)] → Wd D A s (wX10_makeOuter cB cI cZ av a_this v_thrown v_size v_begins v_entries v_length v_pressed v_streamFrames v_zeros v_level v_sum v_tail v_isPlayed v_found v_strange v_innerFails v_outerFails v_mostMarks v_unsure v_may v_mocks v_sumThen v_logs v_marked v_outers v_places v_powers v_rows v_stream v_syndromes v_values v_word_1) H locs → j53_2 v_word_1 = some res → W p l e (rmK 4 102) s m ([.ref a_this, .int x1] : List Value).toArray below meth c H locs 0 0 (MQ below (QG D (tyL cB cI cZ) A (fun _ : (Nat → Int32) × (Nat → Int32) × (Nat → Int32) × (Nat → Int32) × (Nat → Int32) × (Nat → Int32) × (Nat → Int32) => none) (fun res : (Nat → Int32) × (Nat → Int32) × (Nat → Int32) × (Nat → Int32) × (Nat → Int32) × (Nat → Int32) × (Nat → Int32) => (wX10_makeOuter cB cI cZ av a_this v_thrown v_size v_begins v_entries v_length v_pressed v_streamFrames v_zeros v_level v_sum v_tail v_isPlayed v_found v_strange v_innerFails v_outerFails v_mostMarks v_unsure v_may v_mocks v_sumThen v_logs (res.1) (res.2.1) (res.2.2.1) v_powers (res.2.2.2.1) v_stream (res.2.2.2.2.1) (res.2.2.2.2.2.1) (res.2.2.2.2.2.2))) res) ([.ref a_this, .int x1] : List Value).toArray s 0 0 A) (F0 m 53 ls []) := by
    intro v_word_1 ls H locs hl hw h
    have h := k1_at ej53_2 h
    refine lv_aload_n (pc := 53) hx hb dX10_makeOuter_53 rfl (lv_at hl 0 rfl) ?_
    refine lv_iconst (pc := 54) (v := 0) hx hb dX10_makeOuter_54 (by decide) ?_
    obtain ⟨v_marked_3, v_places_4, v_rows_5, v_syndromes_6, v_values_7, v_word_8, hq_9, h⟩ := ob6_at h
    refine x_callV (pc := 55) (rest := []) (stk := []) (wX10_makeOuter cB cI cZ av a_this v_thrown v_size v_begins v_entries v_length v_pressed v_streamFrames v_zeros v_level v_sum v_tail v_isPlayed v_found v_strange v_innerFails v_outerFails v_mostMarks v_unsure v_may v_mocks v_sumThen v_logs v_marked_3 v_outers v_places_4 v_powers v_rows_5 v_stream v_syndromes_6 v_values_7 v_word_8) C hw (ct_X10_check l D cB cI cZ tw av a_this v_thrown v_size v_begins v_entries v_length v_pressed v_streamFrames v_zeros v_level v_sum v_tail v_isPlayed v_found v_strange v_innerFails v_outerFails v_mostMarks v_unsure v_may v_mocks v_sumThen v_logs v_marked v_places v_powers v_rows v_syndromes v_values v_word_1 0 (v_marked_3, v_places_4, v_rows_5, v_syndromes_6, v_values_7, v_word_8) hq_9) cal_X10_check tw_1228 (q0 := 0) rfl rfl [0, 1, 2, 4, 5, 6, 8, 9, 10] [3, 7] 11 [((av 31), .inl (cI, 17920, .inl v_outers)), ((av 5), .inl (cB, 11712, .inl v_stream))] rfl rfl rfl rfl rfl rfl rfl rfl rfl rfl rfl (Nat.le_of_ble_eq_true rfl) hl.1 ⟨Nat.le_of_ble_eq_true rfl, Nat.le_of_ble_eq_true rfl⟩ ⟨Nat.zero_le _, Nat.zero_le _⟩ dX10_makeOuter_55 (fun H locs hw => ?_)
    refine lv_iconst (pc := 58) (v := 0) hx hb dX10_makeOuter_58 (by decide) ?_
    refine lv_istore_n (pc := 59) (lv' := [(2, .int 0), (0, .ref a_this), (1, .int x1)]) hx hb dX10_makeOuter_59 rfl hl (by decide) rfl (fun ls hl => ?_)
    have Lih60_12 : ∀ (F : Nat) (x2_10 : Int32) (v_outers_11 : Nat → Int32) (ls : Array Slot) (H : Heap) (locs : List Loc), lv_has ls 3 [(2, .int x2_10), (0, .ref a_this), (1, .int x1)] → Wd D A s (wX10_makeOuter cB cI cZ av a_this v_thrown v_size v_begins v_entries v_length v_pressed v_streamFrames v_zeros v_level v_sum v_tail v_isPlayed v_found v_strange v_innerFails v_outerFails v_mostMarks v_unsure v_may v_mocks v_sumThen v_logs v_marked_3 v_outers_11 v_places_4 v_powers v_rows_5 v_stream v_syndromes_6 v_values_7 v_word_8) H locs → fX10_makeOuter_L60 v_marked_3 v_places_4 v_rows_5 v_syndromes_6 v_values_7 v_word_8 x1 F x2_10 v_outers_11 = some res → W p l e (rmK 4 102) s m ([.ref a_this, .int x1] : List Value).toArray below meth c H locs 0 0 (MQ below (QG D (tyL cB cI cZ) A (fun _ : (Nat → Int32) × (Nat → Int32) × (Nat → Int32) × (Nat → Int32) × (Nat → Int32) × (Nat → Int32) × (Nat → Int32) => none) (fun res : (Nat → Int32) × (Nat → Int32) × (Nat → Int32) × (Nat → Int32) × (Nat → Int32) × (Nat → Int32) × (Nat → Int32) => (wX10_makeOuter cB cI cZ av a_this v_thrown v_size v_begins v_entries v_length v_pressed v_streamFrames v_zeros v_level v_sum v_tail v_isPlayed v_found v_strange v_innerFails v_outerFails v_mostMarks v_unsure v_may v_mocks v_sumThen v_logs (res.1) (res.2.1) (res.2.2.1) v_powers (res.2.2.2.1) v_stream (res.2.2.2.2.1) (res.2.2.2.2.2.1) (res.2.2.2.2.2.2))) res) ([.ref a_this, .int x1] : List Value).toArray s 0 0 A) (F0 m 60 ls []) := by
      intro F
      induction F with
      | zero => intro x2_10 v_outers_11 ls H locs hl hw h; rw [fX10_makeOuter_L60.eq_1] at h; cases h
      | succ F60_12 ih60_12 =>
        intro x2_10 v_outers_11 ls H locs hl hw h
        rw [fX10_makeOuter_L60.eq_2] at h
        refine lv_iload_n (pc := 60) hx hb dX10_makeOuter_60 rfl (lv_at hl 0 rfl) ?_
        refine lv_bipush (pc := 61) (v := 28) hx hb dX10_makeOuter_61 (by decide) ?_
        refine lv_icmp_ge (pc := 63) (tgt := 89) hx hb dX10_makeOuter_63 (by decide) (fun hc_13 => ?_) (fun hc_13 => ?_)
        · have h := ift hc_13 h
          exact x_vret (pc := 89) (v := (v_marked_3, v_outers_11, v_places_4, v_rows_5, v_syndromes_6, v_values_7, v_word_8)) C (Option.some.inj h) rfl hw dX10_makeOuter_89
        · have h := iff' hc_13 h
          refine lv_aload_n (pc := 66) hx hb dX10_makeOuter_66 rfl (lv_at hl 1 rfl) ?_
          refine gf_X10_73 (pc := 67) C hw 0 rfl rfl dX10_makeOuter_67 ?_
          refine lv_bipush (pc := 70) (v := 28) hx hb dX10_makeOuter_70 (by decide) ?_
          refine lv_iload_n (pc := 72) hx hb dX10_makeOuter_72 rfl (lv_at hl 2 rfl) ?_
          refine lv_imul (pc := 73) hx hb dX10_makeOuter_73 ?_
          refine lv_iload_n (pc := 74) hx hb dX10_makeOuter_74 rfl (lv_at hl 0 rfl) ?_
          refine lv_iadd (pc := 75) hx hb dX10_makeOuter_75 ?_
          refine lv_aload_n (pc := 76) hx hb dX10_makeOuter_76 rfl (lv_at hl 1 rfl) ?_
          refine gf_X10_45 (pc := 77) C hw 0 rfl rfl dX10_makeOuter_77 ?_
          refine lv_iload_n (pc := 80) hx hb dX10_makeOuter_80 rfl (lv_at hl 0 rfl) ?_
          obtain ⟨hi_14, h⟩ := og_at h
          refine x_iald (pc := 81) C hw 10 rfl hi_14 dX10_makeOuter_81 ?_
          obtain ⟨hi_15, h⟩ := og_at h
          obtain ⟨v_outers_16, ev_outers_16⟩ : ∃ y : Nat → Int32, y = upd v_outers_11 (Int32.toNatClampNeg (((28 : Int32) * x1) + x2_10)) (v_word_8 (Int32.toNatClampNeg x2_10)) := ⟨_, rfl⟩
          have h := nm_at ev_outers_16 h
          refine x_iast (pc := 82) (wX10_makeOuter cB cI cZ av a_this v_thrown v_size v_begins v_entries v_length v_pressed v_streamFrames v_zeros v_level v_sum v_tail v_isPlayed v_found v_strange v_innerFails v_outerFails v_mostMarks v_unsure v_may v_mocks v_sumThen v_logs v_marked_3 v_outers_16 v_places_4 v_powers v_rows_5 v_stream v_syndromes_6 v_values_7 v_word_8) C hw 3 rfl hi_15 (by rw [ev_outers_16]; rfl) dX10_makeOuter_82 (fun H locs hw => ?_)
          obtain ⟨x2_17, ex2_17⟩ : ∃ y : Int32, y = x2_10 + 1 := ⟨_, rfl⟩
          have h := nm_at ex2_17 h
          refine lv_iinc (pc := 83) (v := x2_17) (lv' := [(2, .int x2_17), (0, .ref a_this), (1, .int x1)]) hx hb dX10_makeOuter_83 hl (k := 0) rfl (by rw [ex2_17]; rfl) (by decide) rfl (fun ls hl => ?_)
          refine lv_goto (pc := 86) (tgt := 60) hx hb dX10_makeOuter_86 (by decide) ?_
          exact ih60_12 x2_17 v_outers_16 ls _ _ (lv_sub hl [0, 1, 2] rfl) hw h
    exact Lih60_12 FU 0 v_outers ls _ _ (lv_sub hl [0, 1, 2] rfl) hw h
  have Lih2_20 : ∀ (F : Nat) (x2_18 : Int32) (v_word_19 : Nat → Int32) (ls : Array Slot) (H : Heap) (locs : List Loc), lv_has ls 3 [(2, .int x2_18), (0, .ref a_this), (1, .int x1)] → Wd D A s (wX10_makeOuter cB cI cZ av a_this v_thrown v_size v_begins v_entries v_length v_pressed v_streamFrames v_zeros v_level v_sum v_tail v_isPlayed v_found v_strange v_innerFails v_outerFails v_mostMarks v_unsure v_may v_mocks v_sumThen v_logs v_marked v_outers v_places v_powers v_rows v_stream v_syndromes v_values v_word_19) H locs → fX10_makeOuter_L2 j53_2 v_size v_streamFrames v_stream x1 F x2_18 v_word_19 = some res → W p l e (rmK 4 102) s m ([.ref a_this, .int x1] : List Value).toArray below meth c H locs 0 0 (MQ below (QG D (tyL cB cI cZ) A (fun _ : (Nat → Int32) × (Nat → Int32) × (Nat → Int32) × (Nat → Int32) × (Nat → Int32) × (Nat → Int32) × (Nat → Int32) => none) (fun res : (Nat → Int32) × (Nat → Int32) × (Nat → Int32) × (Nat → Int32) × (Nat → Int32) × (Nat → Int32) × (Nat → Int32) => (wX10_makeOuter cB cI cZ av a_this v_thrown v_size v_begins v_entries v_length v_pressed v_streamFrames v_zeros v_level v_sum v_tail v_isPlayed v_found v_strange v_innerFails v_outerFails v_mostMarks v_unsure v_may v_mocks v_sumThen v_logs (res.1) (res.2.1) (res.2.2.1) v_powers (res.2.2.2.1) v_stream (res.2.2.2.2.1) (res.2.2.2.2.2.1) (res.2.2.2.2.2.2))) res) ([.ref a_this, .int x1] : List Value).toArray s 0 0 A) (F0 m 2 ls []) := by
    intro F
    induction F with
    | zero => intro x2_18 v_word_19 ls H locs hl hw h; rw [fX10_makeOuter_L2.eq_1] at h; cases h
    | succ F2_20 ih2_20 =>
      intro x2_18 v_word_19 ls H locs hl hw h
      rw [fX10_makeOuter_L2.eq_2] at h
      refine lv_iload_n (pc := 2) hx hb dX10_makeOuter_2 rfl (lv_at hl 0 rfl) ?_
      refine lv_bipush (pc := 3) (v := 28) hx hb dX10_makeOuter_3 (by decide) ?_
      refine lv_icmp_ge (pc := 5) (tgt := 53) hx hb dX10_makeOuter_5 (by decide) (fun hc_21 => ?_) (fun hc_21 => ?_)
      · have h := ift hc_21 h
        exact J53_2 v_word_19 ls _ _ (lv_sub hl [1, 2] rfl) hw h
      · have h := iff' hc_21 h
        refine lv_aload_n (pc := 8) hx hb dX10_makeOuter_8 rfl (lv_at hl 1 rfl) ?_
        refine gf_X10_45 (pc := 9) C hw 0 rfl rfl dX10_makeOuter_9 ?_
        refine lv_iload_n (pc := 12) hx hb dX10_makeOuter_12 rfl (lv_at hl 0 rfl) ?_
        refine lv_iconst (pc := 13) (v := 0) hx hb dX10_makeOuter_13 (by decide) ?_
        refine lv_iload_n (pc := 14) hx hb dX10_makeOuter_14 rfl (lv_at hl 0 rfl) ?_
        obtain ⟨r_22, hq_23, h⟩ := nt1_at h
        refine x_callS (pc := 15) (rest := [.int x2_18, .ref (av 22)]) (stk := [.int r_22, .int x2_18, .ref (av 22)]) (wX10_makeOuter cB cI cZ av a_this v_thrown v_size v_begins v_entries v_length v_pressed v_streamFrames v_zeros v_level v_sum v_tail v_isPlayed v_found v_strange v_innerFails v_outerFails v_mostMarks v_unsure v_may v_mocks v_sumThen v_logs v_marked v_outers v_places v_powers v_rows v_stream v_syndromes v_values v_word_19) C hw (ct_X10_isCheck l D cB cI cZ tw av 0 x2_18 r_22 hq_23.symm) cal_X10_isCheck tw_1218 [] [0, 1, 2, 3, 4, 5, 6, 7, 8, 9, 10] 11 [oX10 a_this av v_thrown v_size v_begins v_entries v_length v_pressed v_streamFrames v_zeros v_level v_sum v_tail v_isPlayed v_found v_strange v_innerFails v_outerFails v_mostMarks v_unsure v_may v_mocks v_sumThen, ((av 4), .inl (cI, 256, .inl v_logs)), ((av 23), .inl (cZ, 32, .inl v_marked)), ((av 31), .inl (cI, 17920, .inl v_outers)), ((av 25), .inl (cI, 4, .inl v_places)), ((av 3), .inl (cI, 512, .inl v_powers)), ((av 27), .inl (cI, 20, .inl v_rows)), ((av 5), .inl (cB, 11712, .inl v_stream)), ((av 24), .inl (cI, 4, .inl v_syndromes)), ((av 26), .inl (cI, 4, .inl v_values)), ((av 22), .inl (cI, 32, .inl v_word_19))] rfl rfl rfl rfl rfl rfl rfl rfl rfl rfl rfl (Nat.le_of_ble_eq_true rfl) hl.1 ⟨Nat.le_of_ble_eq_true rfl, Nat.le_of_ble_eq_true rfl⟩ ⟨Nat.zero_le _, Nat.zero_le _⟩ dX10_makeOuter_15 (fun H locs hw => ?_)
        obtain ⟨j46_25, ej46_25, h⟩ := jk_at h
        have J46_25 : ∀ (t_24 : Int32) (ls : Array Slot) (H : Heap) (locs : List Loc), lv_has ls 3 [(2, .int x2_18), (0, .ref a_this), (1, .int x1)] → Wd D A s (wX10_makeOuter cB cI cZ av a_this v_thrown v_size v_begins v_entries v_length v_pressed v_streamFrames v_zeros v_level v_sum v_tail v_isPlayed v_found v_strange v_innerFails v_outerFails v_mostMarks v_unsure v_may v_mocks v_sumThen v_logs v_marked v_outers v_places v_powers v_rows v_stream v_syndromes v_values v_word_19) H locs → j46_25 t_24 = some res → W p l e (rmK 4 102) s m ([.ref a_this, .int x1] : List Value).toArray below meth c H locs 0 0 (MQ below (QG D (tyL cB cI cZ) A (fun _ : (Nat → Int32) × (Nat → Int32) × (Nat → Int32) × (Nat → Int32) × (Nat → Int32) × (Nat → Int32) × (Nat → Int32) => none) (fun res : (Nat → Int32) × (Nat → Int32) × (Nat → Int32) × (Nat → Int32) × (Nat → Int32) × (Nat → Int32) × (Nat → Int32) => (wX10_makeOuter cB cI cZ av a_this v_thrown v_size v_begins v_entries v_length v_pressed v_streamFrames v_zeros v_level v_sum v_tail v_isPlayed v_found v_strange v_innerFails v_outerFails v_mostMarks v_unsure v_may v_mocks v_sumThen v_logs (res.1) (res.2.1) (res.2.2.1) v_powers (res.2.2.2.1) v_stream (res.2.2.2.2.1) (res.2.2.2.2.2.1) (res.2.2.2.2.2.2))) res) ([.ref a_this, .int x1] : List Value).toArray s 0 0 A) (F0 m 46 ls [.int t_24, .int x2_18, .ref (av 22)]) := by
          intro t_24 ls H locs hl hw h
          have h := k1_at ej46_25 h
          obtain ⟨hi_26, h⟩ := og_at h
          obtain ⟨v_word_27, ev_word_27⟩ : ∃ y : Nat → Int32, y = upd v_word_19 (Int32.toNatClampNeg x2_18) t_24 := ⟨_, rfl⟩
          have h := nm_at ev_word_27 h
          refine x_iast (pc := 46) (wX10_makeOuter cB cI cZ av a_this v_thrown v_size v_begins v_entries v_length v_pressed v_streamFrames v_zeros v_level v_sum v_tail v_isPlayed v_found v_strange v_innerFails v_outerFails v_mostMarks v_unsure v_may v_mocks v_sumThen v_logs v_marked v_outers v_places v_powers v_rows v_stream v_syndromes v_values v_word_27) C hw 10 rfl hi_26 (by rw [ev_word_27]; rfl) dX10_makeOuter_46 (fun H locs hw => ?_)
          obtain ⟨x2_28, ex2_28⟩ : ∃ y : Int32, y = x2_18 + 1 := ⟨_, rfl⟩
          have h := nm_at ex2_28 h
          refine lv_iinc (pc := 47) (v := x2_28) (lv' := [(2, .int x2_28), (0, .ref a_this), (1, .int x1)]) hx hb dX10_makeOuter_47 hl (k := 0) rfl (by rw [ex2_28]; rfl) (by decide) rfl (fun ls hl => ?_)
          refine lv_goto (pc := 50) (tgt := 2) hx hb dX10_makeOuter_50 (by decide) ?_
          exact ih2_20 x2_28 v_word_27 ls _ _ (lv_sub hl [0, 1, 2] rfl) hw h
        refine lv_if_eq (pc := 18) (tgt := 25) hx hb dX10_makeOuter_18 (by decide) (fun hc_29 => ?_) (fun hc_29 => ?_)
        · have h := ift hc_29 h
          refine lv_aload_n (pc := 25) hx hb dX10_makeOuter_25 rfl (lv_at hl 1 rfl) ?_
          refine lv_iload_n (pc := 26) hx hb dX10_makeOuter_26 rfl (lv_at hl 0 rfl) ?_
          refine lv_bipush (pc := 27) (v := 12) hx hb dX10_makeOuter_27 (by decide) ?_
          obtain ⟨j39_31, ej39_31, h⟩ := jk_at h
          have J39_31 : ∀ (t_30 : Int32) (ls : Array Slot) (H : Heap) (locs : List Loc), lv_has ls 3 [(2, .int x2_18), (0, .ref a_this), (1, .int x1)] → Wd D A s (wX10_makeOuter cB cI cZ av a_this v_thrown v_size v_begins v_entries v_length v_pressed v_streamFrames v_zeros v_level v_sum v_tail v_isPlayed v_found v_strange v_innerFails v_outerFails v_mostMarks v_unsure v_may v_mocks v_sumThen v_logs v_marked v_outers v_places v_powers v_rows v_stream v_syndromes v_values v_word_19) H locs → j39_31 t_30 = some res → W p l e (rmK 4 102) s m ([.ref a_this, .int x1] : List Value).toArray below meth c H locs 0 0 (MQ below (QG D (tyL cB cI cZ) A (fun _ : (Nat → Int32) × (Nat → Int32) × (Nat → Int32) × (Nat → Int32) × (Nat → Int32) × (Nat → Int32) × (Nat → Int32) => none) (fun res : (Nat → Int32) × (Nat → Int32) × (Nat → Int32) × (Nat → Int32) × (Nat → Int32) × (Nat → Int32) × (Nat → Int32) => (wX10_makeOuter cB cI cZ av a_this v_thrown v_size v_begins v_entries v_length v_pressed v_streamFrames v_zeros v_level v_sum v_tail v_isPlayed v_found v_strange v_innerFails v_outerFails v_mostMarks v_unsure v_may v_mocks v_sumThen v_logs (res.1) (res.2.1) (res.2.2.1) v_powers (res.2.2.2.1) v_stream (res.2.2.2.2.1) (res.2.2.2.2.2.1) (res.2.2.2.2.2.2))) res) ([.ref a_this, .int x1] : List Value).toArray s 0 0 A) (F0 m 39 ls [.int t_30, .ref a_this, .int x2_18, .ref (av 22)]) := by
            intro t_30 ls H locs hl hw h
            have h := k1_at ej39_31 h
            refine lv_iload_n (pc := 39) hx hb dX10_makeOuter_39 rfl (lv_at hl 0 rfl) ?_
            obtain ⟨r_32, hq_33, h⟩ := nt1_at h
            refine x_callS (pc := 40) (rest := [.int t_30, .ref a_this, .int x2_18, .ref (av 22)]) (stk := [.int r_32, .int t_30, .ref a_this, .int x2_18, .ref (av 22)]) (wX10_makeOuter cB cI cZ av a_this v_thrown v_size v_begins v_entries v_length v_pressed v_streamFrames v_zeros v_level v_sum v_tail v_isPlayed v_found v_strange v_innerFails v_outerFails v_mostMarks v_unsure v_may v_mocks v_sumThen v_logs v_marked v_outers v_places v_powers v_rows v_stream v_syndromes v_values v_word_19) C hw (ct_X10_byteAt l D cB cI cZ tw av x2_18 r_32 hq_33.symm) cal_X10_byteAt tw_1221 [] [0, 1, 2, 3, 4, 5, 6, 7, 8, 9, 10] 11 [oX10 a_this av v_thrown v_size v_begins v_entries v_length v_pressed v_streamFrames v_zeros v_level v_sum v_tail v_isPlayed v_found v_strange v_innerFails v_outerFails v_mostMarks v_unsure v_may v_mocks v_sumThen, ((av 4), .inl (cI, 256, .inl v_logs)), ((av 23), .inl (cZ, 32, .inl v_marked)), ((av 31), .inl (cI, 17920, .inl v_outers)), ((av 25), .inl (cI, 4, .inl v_places)), ((av 3), .inl (cI, 512, .inl v_powers)), ((av 27), .inl (cI, 20, .inl v_rows)), ((av 5), .inl (cB, 11712, .inl v_stream)), ((av 24), .inl (cI, 4, .inl v_syndromes)), ((av 26), .inl (cI, 4, .inl v_values)), ((av 22), .inl (cI, 32, .inl v_word_19))] rfl rfl rfl rfl rfl rfl rfl rfl rfl rfl rfl (Nat.le_of_ble_eq_true rfl) hl.1 ⟨Nat.le_of_ble_eq_true rfl, Nat.le_of_ble_eq_true rfl⟩ ⟨Nat.zero_le _, Nat.zero_le _⟩ dX10_makeOuter_40 (fun H locs hw => ?_)
            obtain ⟨r_34, hq_35, h⟩ := ob1_at h
            refine x_callV (pc := 43) (rest := [.int x2_18, .ref (av 22)]) (stk := [.int r_34, .int x2_18, .ref (av 22)]) (wX10_makeOuter cB cI cZ av a_this v_thrown v_size v_begins v_entries v_length v_pressed v_streamFrames v_zeros v_level v_sum v_tail v_isPlayed v_found v_strange v_innerFails v_outerFails v_mostMarks v_unsure v_may v_mocks v_sumThen v_logs v_marked v_outers v_places v_powers v_rows v_stream v_syndromes v_values v_word_19) C hw (ct_X10_streamByte l D cB cI cZ tw av a_this v_thrown v_size v_begins v_entries v_length v_pressed v_streamFrames v_zeros v_level v_sum v_tail v_isPlayed v_found v_strange v_innerFails v_outerFails v_mostMarks v_unsure v_may v_mocks v_sumThen v_stream t_30 r_32 r_34 hq_35) cal_X10_streamByte tw_1224 (q0 := 0) rfl rfl [0, 7] [1, 2, 3, 4, 5, 6, 8, 9, 10] 11 [((av 4), .inl (cI, 256, .inl v_logs)), ((av 23), .inl (cZ, 32, .inl v_marked)), ((av 31), .inl (cI, 17920, .inl v_outers)), ((av 25), .inl (cI, 4, .inl v_places)), ((av 3), .inl (cI, 512, .inl v_powers)), ((av 27), .inl (cI, 20, .inl v_rows)), ((av 24), .inl (cI, 4, .inl v_syndromes)), ((av 26), .inl (cI, 4, .inl v_values)), ((av 22), .inl (cI, 32, .inl v_word_19))] rfl rfl rfl rfl rfl rfl rfl rfl rfl rfl rfl (Nat.le_of_ble_eq_true rfl) hl.1 ⟨Nat.le_of_ble_eq_true rfl, Nat.le_of_ble_eq_true rfl⟩ ⟨Nat.zero_le _, Nat.zero_le _⟩ dX10_makeOuter_43 (fun H locs hw => ?_)
            exact J46_25 r_34 ls _ _ (lv_sub hl [0, 1, 2] rfl) hw h
          refine lv_icmp_ge (pc := 29) (tgt := 38) hx hb dX10_makeOuter_29 (by decide) (fun hc_36 => ?_) (fun hc_36 => ?_)
          · have h := ift hc_36 h
            refine lv_iload_n (pc := 38) hx hb dX10_makeOuter_38 rfl (lv_at hl 2 rfl) ?_
            exact J39_31 x1 ls _ _ (lv_sub hl [0, 1, 2] rfl) hw h
          · have h := iff' hc_36 h
            refine lv_iload_n (pc := 32) hx hb dX10_makeOuter_32 rfl (lv_at hl 2 rfl) ?_
            refine lv_iconst (pc := 33) (v := 2) hx hb dX10_makeOuter_33 (by decide) ?_
            refine lv_isub (pc := 34) hx hb dX10_makeOuter_34 ?_
            refine lv_goto (pc := 35) (tgt := 39) hx hb dX10_makeOuter_35 (by decide) ?_
            exact J39_31 (x1 - (2 : Int32)) ls _ _ (lv_sub hl [0, 1, 2] rfl) hw h
        · have h := iff' hc_29 h
          refine lv_iconst (pc := 21) (v := 0) hx hb dX10_makeOuter_21 (by decide) ?_
          refine lv_goto (pc := 22) (tgt := 46) hx hb dX10_makeOuter_22 (by decide) ?_
          exact J46_25 0 ls _ _ (lv_sub hl [0, 1, 2] rfl) hw h
  exact Lih2_20 FU 0 v_word ls _ _ (lv_sub hl [0, 1, 2] rfl) hw h
