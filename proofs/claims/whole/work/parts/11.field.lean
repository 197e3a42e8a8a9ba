def wX2_twice (cB cI cZ : ClassId) : va_W := []
def fX2_twice (x0 : Int32) : Int32 := nm ((x0 <<< ((1 : Int32) &&& 31) : Int32) : Int32) fun x1_1 => if x1_1 ≤ (255 : Int32) then x1_1 else (x1_1 ^^^ (285 : Int32))
set_option maxHeartbeats 4000000 in
set_option maxRecDepth 100000 in
theorem ct_X2_twice (l : Launch) (D : va_G) (cB cI cZ : ClassId) (tw : Nat) (x0 : Int32) (res : Int32) (h : fX2_twice x0 = res) : Ctr l yX2_twice cX2_twice 2 (some .int) (rmK 0 0) D (tyL cB cI cZ) tw [.int x0] (wX2_twice cB cI cZ) (fun res : Int32 => some (.int res)) (fun res : Int32 => (wX2_twice cB cI cZ)) res := by
  refine ctr_of RX2 (by decide) rfl (Nat.le_of_ble_eq_true rfl) ?_
  intro p e s m below meth c A C hw ls hl
  have hx := C.1
  have hb := C.2.1
  have hl : lv_has ls 2 [(0, .int x0)] := hl
  unfold fX2_twice at h
  refine lv_iload_n (pc := 0) hx hb dX2_twice_0 rfl (lv_at hl 0 rfl) ?_
  refine lv_iconst (pc := 1) (v := 1) hx hb dX2_twice_1 (by decide) ?_
  refine lv_ishl (pc := 2) hx hb dX2_twice_2 ?_
  refine lv_topi (pc := 3) (fun x1_1 ex1_1 => ?_)
  have h := nm_at ex1_1 h
  refine lv_istore_n (pc := 3) (lv' := [(1, .int x1_1), (0, .int x0)]) hx hb dX2_twice_3 rfl hl (by decide) rfl (fun ls hl => ?_)
  refine lv_iload_n (pc := 4) hx hb dX2_twice_4 rfl (lv_at hl 0 rfl) ?_
  refine lv_sipush (pc := 5) (v := 255) hx hb dX2_twice_5 (by decide) ?_
  refine lv_icmp_le (pc := 8) (tgt := 19) hx hb dX2_twice_8 (by decide) (fun hc_2 => ?_) (fun hc_2 => ?_)
  · have h := ift hc_2 h
    refine lv_iload_n (pc := 19) hx hb dX2_twice_19 rfl (lv_at hl 0 rfl) ?_
    exact x_iret (pc := 20) (v := x1_1) C h rfl hw dX2_twice_20
  · have h := iff' hc_2 h
    refine lv_iload_n (pc := 11) hx hb dX2_twice_11 rfl (lv_at hl 0 rfl) ?_
    refine lv_sipush (pc := 12) (v := 285) hx hb dX2_twice_12 (by decide) ?_
    refine lv_ixor (pc := 15) hx hb dX2_twice_15 ?_
    refine lv_goto (pc := 16) (tgt := 20) hx hb dX2_twice_16 (by decide) ?_
    exact x_iret (pc := 20) (v := (x1_1 ^^^ (285 : Int32))) C h rfl hw dX2_twice_20
def wX2_power (cB cI cZ : ClassId) (a_this : Nat) (a_powers : Nat) (a_logs : Nat) (v_powers : Nat → Int32) : va_W := [oX2 a_this a_powers a_logs, (a_powers, .inl (cI, 510, .inl v_powers))]
def fX2_power (v_powers : Nat → Int32) (x1 : Int32) : Option (Int32) := if x1 < 0 then some 0 else if (510 : Int32) ≤ x1 then some 0 else og (ixb x1 510) (some (v_powers (Int32.toNatClampNeg x1)))
set_option maxHeartbeats 4000000 in
set_option maxRecDepth 100000 in
theorem ct_X2_power (l : Launch) (D : va_G) (cB cI cZ : ClassId) (tw : Nat) (a_this : Nat) (a_powers : Nat) (a_logs : Nat) (v_powers : Nat → Int32) (x1 : Int32) (res : Int32) (h : fX2_power v_powers x1 = some res) : Ctr l yX2_power cX2_power 2 (some .int) (rmK 0 0) D (tyL cB cI cZ) tw [.ref a_this, .int x1] (wX2_power cB cI cZ a_this a_powers a_logs v_powers) (fun res : Int32 => some (.int res)) (fun res : Int32 => (wX2_power cB cI cZ a_this a_powers a_logs v_powers)) res := by
  refine ctr_of RX2 (by decide) rfl (Nat.le_of_ble_eq_true rfl) ?_
  intro p e s m below meth c A C hw ls hl
  have hx := C.1
  have hb := C.2.1
  have hl : lv_has ls 2 [(0, .ref a_this), (1, .int x1)] := hl
  unfold fX2_power at h
  refine lv_iload_n (pc := 0) hx hb dX2_power_0 rfl (lv_at hl 1 rfl) ?_
  refine lv_if_lt (pc := 1) (tgt := 22) hx hb dX2_power_1 (by decide) (fun hc_1 => ?_) (fun hc_1 => ?_)
  · have h := ift hc_1 h
    refine lv_iconst (pc := 22) (v := 0) hx hb dX2_power_22 (by decide) ?_
    exact x_iret (pc := 23) (v := 0) C (Option.some.inj h) rfl hw dX2_power_23
  · have h := iff' hc_1 h
    refine lv_iload_n (pc := 4) hx hb dX2_power_4 rfl (lv_at hl 1 rfl) ?_
    refine lv_aload_n (pc := 5) hx hb dX2_power_5 rfl (lv_at hl 0 rfl) ?_
    refine gf_X2_7 (pc := 6) C hw 0 rfl rfl dX2_power_6 ?_
    refine x_ilen (pc := 9) 510 C hw 1 1 rfl rfl (by decide) dX2_power_9 ?_
    refine lv_icmp_ge (pc := 10) (tgt := 22) hx hb dX2_power_10 (by decide) (fun hc_2 => ?_) (fun hc_2 => ?_)
    · have h := ift hc_2 h
      refine lv_iconst (pc := 22) (v := 0) hx hb dX2_power_22 (by decide) ?_
      exact x_iret (pc := 23) (v := 0) C (Option.some.inj h) rfl hw dX2_power_23
    · have h := iff' hc_2 h
      refine lv_aload_n (pc := 13) hx hb dX2_power_13 rfl (lv_at hl 0 rfl) ?_
      refine gf_X2_7 (pc := 14) C hw 0 rfl rfl dX2_power_14 ?_
      refine lv_iload_n (pc := 17) hx hb dX2_power_17 rfl (lv_at hl 1 rfl) ?_
      obtain ⟨hi_3, h⟩ := og_at h
      refine x_iald (pc := 18) C hw 1 rfl hi_3 dX2_power_18 ?_
      refine lv_goto (pc := 19) (tgt := 23) hx hb dX2_power_19 (by decide) ?_
      exact x_iret (pc := 23) (v := (v_powers (Int32.toNatClampNeg x1))) C (Option.some.inj h) rfl hw dX2_power_23
def wX2_times (cB cI cZ : ClassId) (a_this : Nat) (a_powers : Nat) (a_logs : Nat) (v_logs : Nat → Int32) (v_powers : Nat → Int32) : va_W := [oX2 a_this a_powers a_logs, (a_logs, .inl (cI, 256, .inl v_logs)), (a_powers, .inl (cI, 510, .inl v_powers))]
def fX2_times (v_logs : Nat → Int32) (v_powers : Nat → Int32) (x1 : Int32) (x2 : Int32) : Option (Int32) := if x1 = 0 then some 0 else if x2 = 0 then some 0 else og (ixb (x1 &&& (255 : Int32)) 256) (og (ixb (x2 &&& (255 : Int32)) 256) (og (ixb ((v_logs (Int32.toNatClampNeg (x1 &&& (255 : Int32)))) + (v_logs (Int32.toNatClampNeg (x2 &&& (255 : Int32))))) 510) (some (v_powers (Int32.toNatClampNeg ((v_logs (Int32.toNatClampNeg (x1 &&& (255 : Int32)))) + (v_logs (Int32.toNatClampNeg (x2 &&& (255 : Int32))))))))))
set_option maxHeartbeats 4000000 in
set_option maxRecDepth 100000 in
theorem ct_X2_times (l : Launch) (D : va_G) (cB cI cZ : ClassId) (tw : Nat) (a_this : Nat) (a_powers : Nat) (a_logs : Nat) (v_logs : Nat → Int32) (v_powers : Nat → Int32) (x1 : Int32) (x2 : Int32) (res : Int32) (h : fX2_times v_logs v_powers x1 x2 = some res) : Ctr l yX2_times cX2_times 3 (some .int) (rmK 0 0) D (tyL cB cI cZ) tw [.ref a_this, .int x1, .int x2] (wX2_times cB cI cZ a_this a_powers a_logs v_logs v_powers) (fun res : Int32 => some (.int res)) (fun res : Int32 => (wX2_times cB cI cZ a_this a_powers a_logs v_logs v_powers)) res := by
  refine ctr_of RX2 (by decide) rfl (Nat.le_of_ble_eq_true rfl) ?_
  intro p e s m below meth c A C hw ls hl
  have hx := C.1
  have hb := C.2.1
  have hl : lv_has ls 3 [(0, .ref a_this), (1, .int x1), (2, .int x2)] := hl
  unfold fX2_times at h
  refine lv_iload_n (pc := 0) hx hb dX2_times_0 rfl (lv_at hl 1 rfl) ?_
  refine lv_if_eq (pc := 1) (tgt := 8) hx hb dX2_times_1 (by decide) (fun hc_1 => ?_) (fun hc_1 => ?_)
  · have h := ift hc_1 h
    refine lv_iconst (pc := 8) (v := 0) hx hb dX2_times_8 (by decide) ?_
    refine lv_goto (pc := 9) (tgt := 38) hx hb dX2_times_9 (by decide) ?_
    exact x_iret (pc := 38) (v := 0) C (Option.some.inj h) rfl hw dX2_times_38
  · have h := iff' hc_1 h
    refine lv_iload_n (pc := 4) hx hb dX2_times_4 rfl (lv_at hl 2 rfl) ?_
    refine lv_if_ne (pc := 5) (tgt := 12) hx hb dX2_times_5 (by decide) (fun hc_2 => ?_) (fun hc_2 => ?_)
    · have h := iff' hc_2 h
      refine lv_aload_n (pc := 12) hx hb dX2_times_12 rfl (lv_at hl 0 rfl) ?_
      refine gf_X2_7 (pc := 13) C hw 0 rfl rfl dX2_times_13 ?_
      refine lv_aload_n (pc := 16) hx hb dX2_times_16 rfl (lv_at hl 0 rfl) ?_
      refine gf_X2_13 (pc := 17) C hw 0 rfl rfl dX2_times_17 ?_
      refine lv_iload_n (pc := 20) hx hb dX2_times_20 rfl (lv_at hl 1 rfl) ?_
      refine lv_sipush (pc := 21) (v := 255) hx hb dX2_times_21 (by decide) ?_
      refine lv_iand (pc := 24) hx hb dX2_times_24 ?_
      obtain ⟨hi_3, h⟩ := og_at h
      refine x_iald (pc := 25) C hw 1 rfl hi_3 dX2_times_25 ?_
      refine lv_aload_n (pc := 26) hx hb dX2_times_26 rfl (lv_at hl 0 rfl) ?_
      refine gf_X2_13 (pc := 27) C hw 0 rfl rfl dX2_times_27 ?_
      refine lv_iload_n (pc := 30) hx hb dX2_times_30 rfl (lv_at hl 2 rfl) ?_
      refine lv_sipush (pc := 31) (v := 255) hx hb dX2_times_31 (by decide) ?_
      refine lv_iand (pc := 34) hx hb dX2_times_34 ?_
      obtain ⟨hi_4, h⟩ := og_at h
      refine x_iald (pc := 35) C hw 1 rfl hi_4 dX2_times_35 ?_
      refine lv_iadd (pc := 36) hx hb dX2_times_36 ?_
      obtain ⟨hi_5, h⟩ := og_at h
      refine x_iald (pc := 37) C hw 2 rfl hi_5 dX2_times_37 ?_
      exact x_iret (pc := 38) (v := (v_powers (Int32.toNatClampNeg ((v_logs (Int32.toNatClampNeg (x1 &&& (255 : Int32)))) + (v_logs (Int32.toNatClampNeg (x2 &&& (255 : Int32)))))))) C (Option.some.inj h) rfl hw dX2_times_38
    · have h := ift hc_2 h
      refine lv_iconst (pc := 8) (v := 0) hx hb dX2_times_8 (by decide) ?_
      refine lv_goto (pc := 9) (tgt := 38) hx hb dX2_times_9 (by decide) ?_
      exact x_iret (pc := 38) (v := 0) C (Option.some.inj h) rfl hw dX2_times_38
def wX2_over (cB cI cZ : ClassId) (a_this : Nat) (a_powers : Nat) (a_logs : Nat) (v_logs : Nat → Int32) (v_powers : Nat → Int32) : va_W := [oX2 a_this a_powers a_logs, (a_logs, .inl (cI, 256, .inl v_logs)), (a_powers, .inl (cI, 510, .inl v_powers))]
def fX2_over (v_logs : Nat → Int32) (v_powers : Nat → Int32) (x1 : Int32) (x2 : Int32) : Option (Int32) := if x1 = 0 then some 0 else if x2 = 0 then some 0 else og (ixb (x1 &&& (255 : Int32)) 256) (og (ixb (x2 &&& (255 : Int32)) 256) (og (ixb (((v_logs (Int32.toNatClampNeg (x1 &&& (255 : Int32)))) + (255 : Int32)) - (v_logs (Int32.toNatClampNeg (x2 &&& (255 : Int32))))) 510) (some (v_powers (Int32.toNatClampNeg (((v_logs (Int32.toNatClampNeg (x1 &&& (255 : Int32)))) + (255 : Int32)) - (v_logs (Int32.toNatClampNeg (x2 &&& (255 : Int32))))))))))
set_option maxHeartbeats 4000000 in
set_option maxRecDepth 100000 in
theorem ct_X2_over (l : Launch) (D : va_G) (cB cI cZ : ClassId) (tw : Nat) (a_this : Nat) (a_powers : Nat) (a_logs : Nat) (v_logs : Nat → Int32) (v_powers : Nat → Int32) (x1 : Int32) (x2 : Int32) (res : Int32) (h : fX2_over v_logs v_powers x1 x2 = some res) : Ctr l yX2_over cX2_over 3 (some .int) (rmK 0 0) D (tyL cB cI cZ) tw [.ref a_this, .int x1, .int x2] (wX2_over cB cI cZ a_this a_powers a_logs v_logs v_powers) (fun res : Int32 => some (.int res)) (fun res : Int32 => (wX2_over cB cI cZ a_this a_powers a_logs v_logs v_powers)) res := by
  refine ctr_of RX2 (by decide) rfl (Nat.le_of_ble_eq_true rfl) ?_
  intro p e s m below meth c A C hw ls hl
  have hx := C.1
  have hb := C.2.1
  have hl : lv_has ls 3 [(0, .ref a_this), (1, .int x1), (2, .int x2)] := hl
  unfold fX2_over at h
  refine lv_iload_n (pc := 0) hx hb dX2_over_0 rfl (lv_at hl 1 rfl) ?_
  refine lv_if_eq (pc := 1) (tgt := 8) hx hb dX2_over_1 (by decide) (fun hc_1 => ?_) (fun hc_1 => ?_)
  · have h := ift hc_1 h
    refine lv_iconst (pc := 8) (v := 0) hx hb dX2_over_8 (by decide) ?_
    refine lv_goto (pc := 9) (tgt := 42) hx hb dX2_over_9 (by decide) ?_
    exact x_iret (pc := 42) (v := 0) C (Option.some.inj h) rfl hw dX2_over_42
  · have h := iff' hc_1 h
    refine lv_iload_n (pc := 4) hx hb dX2_over_4 rfl (lv_at hl 2 rfl) ?_
    refine lv_if_ne (pc := 5) (tgt := 12) hx hb dX2_over_5 (by decide) (fun hc_2 => ?_) (fun hc_2 => ?_)
    · have h := iff' hc_2 h
      refine lv_aload_n (pc := 12) hx hb dX2_over_12 rfl (lv_at hl 0 rfl) ?_
      refine gf_X2_7 (pc := 13) C hw 0 rfl rfl dX2_over_13 ?_
      refine lv_aload_n (pc := 16) hx hb dX2_over_16 rfl (lv_at hl 0 rfl) ?_
      refine gf_X2_13 (pc := 17) C hw 0 rfl rfl dX2_over_17 ?_
      refine lv_iload_n (pc := 20) hx hb dX2_over_20 rfl (lv_at hl 1 rfl) ?_
      refine lv_sipush (pc := 21) (v := 255) hx hb dX2_over_21 (by decide) ?_
      refine lv_iand (pc := 24) hx hb dX2_over_24 ?_
      obtain ⟨hi_3, h⟩ := og_at h
      refine x_iald (pc := 25) C hw 1 rfl hi_3 dX2_over_25 ?_
      refine lv_sipush (pc := 26) (v := 255) hx hb dX2_over_26 (by decide) ?_
      refine lv_iadd (pc := 29) hx hb dX2_over_29 ?_
      refine lv_aload_n (pc := 30) hx hb dX2_over_30 rfl (lv_at hl 0 rfl) ?_
      refine gf_X2_13 (pc := 31) C hw 0 rfl rfl dX2_over_31 ?_
      refine lv_iload_n (pc := 34) hx hb dX2_over_34 rfl (lv_at hl 2 rfl) ?_
      refine lv_sipush (pc := 35) (v := 255) hx hb dX2_over_35 (by decide) ?_
      refine lv_iand (pc := 38) hx hb dX2_over_38 ?_
      obtain ⟨hi_4, h⟩ := og_at h
      refine x_iald (pc := 39) C hw 1 rfl hi_4 dX2_over_39 ?_
      refine lv_isub (pc := 40) hx hb dX2_over_40 ?_
      obtain ⟨hi_5, h⟩ := og_at h
      refine x_iald (pc := 41) C hw 2 rfl hi_5 dX2_over_41 ?_
      exact x_iret (pc := 42) (v := (v_powers (Int32.toNatClampNeg (((v_logs (Int32.toNatClampNeg (x1 &&& (255 : Int32)))) + (255 : Int32)) - (v_logs (Int32.toNatClampNeg (x2 &&& (255 : Int32)))))))) C (Option.some.inj h) rfl hw dX2_over_42
    · have h := ift hc_2 h
      refine lv_iconst (pc := 8) (v := 0) hx hb dX2_over_8 (by decide) ?_
      refine lv_goto (pc := 9) (tgt := 42) hx hb dX2_over_9 (by decide) ?_
      exact x_iret (pc := 42) (v := 0) C (Option.some.inj h) rfl hw dX2_over_42
def wX2_log (cB cI cZ : ClassId) (a_this : Nat) (a_powers : Nat) (a_logs : Nat) (v_logs : Nat → Int32) : va_W := [oX2 a_this a_powers a_logs, (a_logs, .inl (cI, 256, .inl v_logs))]
def fX2_log (v_logs : Nat → Int32) (x1 : Int32) : Option (Int32) := og (ixb (x1 &&& (255 : Int32)) 256) (some (v_logs (Int32.toNatClampNeg (x1 &&& (255 : Int32)))))
set_option maxHeartbeats 4000000 in
set_option maxRecDepth 100000 in
theorem ct_X2_log (l : Launch) (D : va_G) (cB cI cZ : ClassId) (tw : Nat) (a_this : Nat) (a_powers : Nat) (a_logs : Nat) (v_logs : Nat → Int32) (x1 : Int32) (res : Int32) (h : fX2_log v_logs x1 = some res) : Ctr l yX2_log cX2_log 2 (some .int) (rmK 0 0) D (tyL cB cI cZ) tw [.ref a_this, .int x1] (wX2_log cB cI cZ a_this a_powers a_logs v_logs) (fun res : Int32 => some (.int res)) (fun res : Int32 => (wX2_log cB cI cZ a_this a_powers a_logs v_logs)) res := by
  refine ctr_of RX2 (by decide) rfl (Nat.le_of_ble_eq_true rfl) ?_
  intro p e s m below meth c A C hw ls hl
  have hx := C.1
  have hb := C.2.1
  have hl : lv_has ls 2 [(0, .ref a_this), (1, .int x1)] := hl
  unfold fX2_log at h
  refine lv_aload_n (pc := 0) hx hb dX2_log_0 rfl (lv_at hl 0 rfl) ?_
  refine gf_X2_13 (pc := 1) C hw 0 rfl rfl dX2_log_1 ?_
  refine lv_iload_n (pc := 4) hx hb dX2_log_4 rfl (lv_at hl 1 rfl) ?_
  refine lv_sipush (pc := 5) (v := 255) hx hb dX2_log_5 (by decide) ?_
  refine lv_iand (pc := 8) hx hb dX2_log_8 ?_
  obtain ⟨hi_1, h⟩ := og_at h
  refine x_iald (pc := 9) C hw 1 rfl hi_1 dX2_log_9 ?_
  exact x_iret (pc := 10) (v := (v_logs (Int32.toNatClampNeg (x1 &&& (255 : Int32))))) C (Option.some.inj h) rfl hw dX2_log_10
