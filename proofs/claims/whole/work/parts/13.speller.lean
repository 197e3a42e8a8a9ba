def wX8_wordOf (cB cI cZ : ClassId) (a_this : Nat) : va_W := []
def fX8_wordOf (x1 : Int32) : Option (Int32) := if x1 < 0 then some (-1) else if (256 : Int32) ≤ x1 then some (-1) else og (ixb x1 256) (some (wordsF (Int32.toNatClampNeg x1)))
set_option maxHeartbeats 4000000 in
set_option maxRecDepth 100000 in
theorem ct_X8_wordOf (l : Launch) (D : va_G) (cB cI cZ : ClassId) (tw : Nat) (a_this : Nat) (x1 : Int32) (res : Int32) (h : fX8_wordOf x1 = some res) : Ctr l yX8_wordOf cX8_wordOf 2 (some .int) (rmK 0 0) D (tyL cB cI cZ) tw [.ref a_this, .int x1] (wX8_wordOf cB cI cZ a_this) (fun res : Int32 => some (.int res)) (fun res : Int32 => (wX8_wordOf cB cI cZ a_this)) res := by
  refine ctr_of RX8 (by decide) rfl (Nat.le_of_ble_eq_true rfl) ?_
  intro p e s m below meth c A C hw ls hl
  have hx := C.1
  have hb := C.2.1
  have hl : lv_has ls 2 [(0, .ref a_this), (1, .int x1)] := hl
  unfold fX8_wordOf at h
  refine lv_iload_n (pc := 0) hx hb dX8_wordOf_0 rfl (lv_at hl 1 rfl) ?_
  refine lv_if_lt (pc := 1) (tgt := 20) hx hb dX8_wordOf_1 (by decide) (fun hc_1 => ?_) (fun hc_1 => ?_)
  · have h := ift hc_1 h
    refine lv_iconst (pc := 20) (v := (-1)) hx hb dX8_wordOf_20 (by decide) ?_
    exact x_iret (pc := 21) (v := (-1)) C (Option.some.inj h) rfl hw dX8_wordOf_21
  · have h := iff' hc_1 h
    refine lv_iload_n (pc := 4) hx hb dX8_wordOf_4 rfl (lv_at hl 1 rfl) ?_
    refine x_stW (pc := 5) C hw tw_85 dX8_wordOf_5 ?_
    refine x_wlen (pc := 8) C hw dX8_wordOf_8 ?_
    refine lv_icmp_ge (pc := 9) (tgt := 20) hx hb dX8_wordOf_9 (by decide) (fun hc_2 => ?_) (fun hc_2 => ?_)
    · have h := ift hc_2 h
      refine lv_iconst (pc := 20) (v := (-1)) hx hb dX8_wordOf_20 (by decide) ?_
      exact x_iret (pc := 21) (v := (-1)) C (Option.some.inj h) rfl hw dX8_wordOf_21
    · have h := iff' hc_2 h
      refine x_stW (pc := 12) C hw tw_85 dX8_wordOf_12 ?_
      refine lv_iload_n (pc := 15) hx hb dX8_wordOf_15 rfl (lv_at hl 1 rfl) ?_
      obtain ⟨hi_3, h⟩ := og_at h
      refine x_wald (pc := 16) C hw hi_3 dX8_wordOf_16 ?_
      refine lv_goto (pc := 17) (tgt := 21) hx hb dX8_wordOf_17 (by decide) ?_
      exact x_iret (pc := 21) (v := (wordsF (Int32.toNatClampNeg x1))) C (Option.some.inj h) rfl hw dX8_wordOf_21
def wX8_byteOf (cB cI cZ : ClassId) (a_this : Nat) (a_kinds : Nat) (a_square : Nat) (v_kinds : Nat → Int32) (v_square : Nat → Int32) : va_W := [oX8 a_this a_kinds a_square, (a_kinds, .inl (cI, 128, .inl v_kinds)), (a_square, .inl (cI, 400, .inl v_square))]
def fX8_byteOf (v_kinds : Nat → Int32) (v_square : Nat → Int32) (x1 : Int32) : Option (Int32) := if x1 < 0 then some (-1) else if x1 < (16384 : Int32) then og (ixb (UInt32.toInt32 (Int32.toUInt32 x1 >>> (Int32.toUInt32 7 &&& Int32.toUInt32 31))) 128) (og (ixb (x1 &&& (127 : Int32)) 128) (og (ixb (((v_kinds (Int32.toNatClampNeg (UInt32.toInt32 (Int32.toUInt32 x1 >>> (Int32.toUInt32 7 &&& Int32.toUInt32 31))))) * (20 : Int32)) + (v_kinds (Int32.toNatClampNeg (x1 &&& (127 : Int32))))) 400) (nm ((v_square (Int32.toNatClampNeg (((v_kinds (Int32.toNatClampNeg (UInt32.toInt32 (Int32.toUInt32 x1 >>> (Int32.toUInt32 7 &&& Int32.toUInt32 31))))) * (20 : Int32)) + (v_kinds (Int32.toNatClampNeg (x1 &&& (127 : Int32))))))) : Int32) fun x2_6 => ob1 (fX8_wordOf x2_6) fun r_7 => if r_7 = x1 then some x2_6 else some (-1)))) else some (-1)
set_option maxHeartbeats 4000000 in
set_option maxRecDepth 100000 in
theorem ct_X8_byteOf (l : Launch) (D : va_G) (cB cI cZ : ClassId) (tw : Nat) (a_this : Nat) (a_kinds : Nat) (a_square : Nat) (v_kinds : Nat → Int32) (v_square : Nat → Int32) (x1 : Int32) (res : Int32) (h : fX8_byteOf v_kinds v_square x1 = some res) : Ctr l yX8_byteOf cX8_byteOf 3 (some .int) (rmK 1 21) D (tyL cB cI cZ) tw [.ref a_this, .int x1] (wX8_byteOf cB cI cZ a_this a_kinds a_square v_kinds v_square) (fun res : Int32 => some (.int res)) (fun res : Int32 => (wX8_byteOf cB cI cZ a_this a_kinds a_square v_kinds v_square)) res := by
  refine ctr_of RX8 (by decide) rfl (Nat.le_of_ble_eq_true rfl) ?_
  intro p e s m below meth c A C hw ls hl
  have hx := C.1
  have hb := C.2.1
  have hl : lv_has ls 3 [(0, .ref a_this), (1, .int x1)] := hl
  unfold fX8_byteOf at h
  refine lv_iload_n (pc := 0) hx hb dX8_byteOf_0 rfl (lv_at hl 1 rfl) ?_
  refine lv_if_lt (pc := 1) (tgt := 11) hx hb dX8_byteOf_1 (by decide) (fun hc_1 => ?_) (fun hc_1 => ?_)
  · have h := ift hc_1 h
    refine lv_iconst (pc := 11) (v := (-1)) hx hb dX8_byteOf_11 (by decide) ?_
    exact x_iret (pc := 12) (v := (-1)) C (Option.some.inj h) rfl hw dX8_byteOf_12
  · have h := iff' hc_1 h
    refine lv_iload_n (pc := 4) hx hb dX8_byteOf_4 rfl (lv_at hl 1 rfl) ?_
    refine lv_sipush (pc := 5) (v := 16384) hx hb dX8_byteOf_5 (by decide) ?_
    refine lv_icmp_lt (pc := 8) (tgt := 13) hx hb dX8_byteOf_8 (by decide) (fun hc_2 => ?_) (fun hc_2 => ?_)
    · have h := ift hc_2 h
      refine lv_aload_n (pc := 13) hx hb dX8_byteOf_13 rfl (lv_at hl 0 rfl) ?_
      refine gf_X8_15 (pc := 14) C hw 0 rfl rfl dX8_byteOf_14 ?_
      refine lv_aload_n (pc := 17) hx hb dX8_byteOf_17 rfl (lv_at hl 0 rfl) ?_
      refine gf_X8_9 (pc := 18) C hw 0 rfl rfl dX8_byteOf_18 ?_
      refine lv_iload_n (pc := 21) hx hb dX8_byteOf_21 rfl (lv_at hl 1 rfl) ?_
      refine lv_bipush (pc := 22) (v := 7) hx hb dX8_byteOf_22 (by decide) ?_
      refine lv_iushr (pc := 24) hx hb dX8_byteOf_24 rfl ?_
      obtain ⟨hi_3, h⟩ := og_at h
      refine x_iald (pc := 25) C hw 1 rfl hi_3 dX8_byteOf_25 ?_
      refine lv_bipush (pc := 26) (v := 20) hx hb dX8_byteOf_26 (by decide) ?_
      refine lv_imul (pc := 28) hx hb dX8_byteOf_28 ?_
      refine lv_aload_n (pc := 29) hx hb dX8_byteOf_29 rfl (lv_at hl 0 rfl) ?_
      refine gf_X8_9 (pc := 30) C hw 0 rfl rfl dX8_byteOf_30 ?_
      refine lv_iload_n (pc := 33) hx hb dX8_byteOf_33 rfl (lv_at hl 1 rfl) ?_
      refine lv_bipush (pc := 34) (v := 127) hx hb dX8_byteOf_34 (by decide) ?_
      refine lv_iand (pc := 36) hx hb dX8_byteOf_36 ?_
      obtain ⟨hi_4, h⟩ := og_at h
      refine x_iald (pc := 37) C hw 1 rfl hi_4 dX8_byteOf_37 ?_
      refine lv_iadd (pc := 38) hx hb dX8_byteOf_38 ?_
      obtain ⟨hi_5, h⟩ := og_at h
      refine x_iald (pc := 39) C hw 2 rfl hi_5 dX8_byteOf_39 ?_
      refine lv_topi (pc := 40) (fun x2_6 ex2_6 => ?_)
      have h := nm_at ex2_6 h
      refine lv_istore_n (pc := 40) (lv' := [(2, .int x2_6), (0, .ref a_this), (1, .int x1)]) hx hb dX8_byteOf_40 rfl hl (by decide) rfl (fun ls hl => ?_)
      refine lv_aload_n (pc := 41) hx hb dX8_byteOf_41 rfl (lv_at hl 1 rfl) ?_
      refine lv_iload_n (pc := 42) hx hb dX8_byteOf_42 rfl (lv_at hl 0 rfl) ?_
      obtain ⟨r_7, hq_8, h⟩ := ob1_at h
      refine x_callV (pc := 43) (rest := []) (stk := [.int r_7]) (wX8_byteOf cB cI cZ a_this a_kinds a_square v_kinds v_square) C hw (ct_X8_wordOf l D cB cI cZ tw a_this x2_6 r_7 hq_8) cal_X8_wordOf tw_739 (q0 := 0) rfl rfl [] [0, 1, 2] 3 [oX8 a_this a_kinds a_square, (a_kinds, .inl (cI, 128, .inl v_kinds)), (a_square, .inl (cI, 400, .inl v_square))] rfl rfl rfl rfl rfl rfl rfl rfl rfl rfl rfl (Nat.le_of_ble_eq_true rfl) hl.1 ⟨Nat.le_of_ble_eq_true rfl, Nat.le_of_ble_eq_true rfl⟩ ⟨Nat.zero_le _, Nat.zero_le _⟩ dX8_byteOf_43 (fun H locs hw => ?_)
      refine lv_iload_n (pc := 46) hx hb dX8_byteOf_46 rfl (lv_at hl 2 rfl) ?_
      refine lv_icmp_ne (pc := 47) (tgt := 54) hx hb dX8_byteOf_47 (by decide) (fun hc_9 => ?_) (fun hc_9 => ?_)
      · have h := iff' hc_9 h
        refine lv_iconst (pc := 54) (v := (-1)) hx hb dX8_byteOf_54 (by decide) ?_
        exact x_iret (pc := 55) (v := (-1)) C (Option.some.inj h) rfl hw dX8_byteOf_55
      · have h := ift hc_9 h
        refine lv_iload_n (pc := 50) hx hb dX8_byteOf_50 rfl (lv_at hl 0 rfl) ?_
        refine lv_goto (pc := 51) (tgt := 55) hx hb dX8_byteOf_51 (by decide) ?_
        exact x_iret (pc := 55) (v := x2_6) C (Option.some.inj h) rfl hw dX8_byteOf_55
    · have h := iff' hc_2 h
      refine lv_iconst (pc := 11) (v := (-1)) hx hb dX8_byteOf_11 (by decide) ?_
      exact x_iret (pc := 12) (v := (-1)) C (Option.some.inj h) rfl hw dX8_byteOf_12
