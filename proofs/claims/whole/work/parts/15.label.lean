def wX4_figures (cB cI cZ : ClassId) : va_W := []
def fX4_figures (x0 : Int32) : Int32 := ((((x0 / (10 : Int32)) - (x0 / (10 : Int32)) / (10 : Int32) * (10 : Int32)) <<< ((4 : Int32) &&& 31) : Int32) ||| (x0 - x0 / (10 : Int32) * (10 : Int32)))
set_option maxHeartbeats 4000000 in
set_option maxRecDepth 100000 in
theorem ct_X4_figures (l : Launch) (D : va_G) (cB cI cZ : ClassId) (tw : Nat) (x0 : Int32) (res : Int32) (h : fX4_figures x0 = res) : Ctr l yX4_figures cX4_figures 1 (some .int) (rmK 0 0) D (tyL cB cI cZ) tw [.int x0] (wX4_figures cB cI cZ) (fun res : Int32 => some (.int res)) (fun res : Int32 => (wX4_figures cB cI cZ)) res := by
  refine ctr_of RX4 (by decide) rfl (Nat.le_of_ble_eq_true rfl) ?_
  intro p e s m below meth c A C hw ls hl
  have hx := C.1
  have hb := C.2.1
  have hl : lv_has ls 1 [(0, .int x0)] := hl
  unfold fX4_figures at h
  refine lv_iload_n (pc := 0) hx hb dX4_figures_0 rfl (lv_at hl 0 rfl) ?_
  refine lv_bipush (pc := 1) (v := 10) hx hb dX4_figures_1 (by decide) ?_
  refine lv_idiv (pc := 3) hx hb dX4_figures_3 (by decide) ?_
  refine lv_bipush (pc := 4) (v := 10) hx hb dX4_figures_4 (by decide) ?_
  refine lv_irem (pc := 6) hx hb dX4_figures_6 (by decide) ?_
  refine lv_iconst (pc := 7) (v := 4) hx hb dX4_figures_7 (by decide) ?_
  refine lv_ishl (pc := 8) hx hb dX4_figures_8 ?_
  refine lv_iload_n (pc := 9) hx hb dX4_figures_9 rfl (lv_at hl 0 rfl) ?_
  refine lv_bipush (pc := 10) (v := 10) hx hb dX4_figures_10 (by decide) ?_
  refine lv_irem (pc := 12) hx hb dX4_figures_12 (by decide) ?_
  refine lv_ior (pc := 13) hx hb dX4_figures_13 ?_
  exact x_iret (pc := 14) (v := ((((x0 / (10 : Int32)) - (x0 / (10 : Int32)) / (10 : Int32) * (10 : Int32)) <<< ((4 : Int32) &&& 31) : Int32) ||| (x0 - x0 / (10 : Int32) * (10 : Int32)))) C h rfl hw dX4_figures_14
def wX4_writeTime (cB cI cZ : ClassId) (a_this : Nat) (a_octets : Nat) (v_octets : Nat → Int32) : va_W := [oX4 a_this a_octets, (a_octets, .inl (cI, 12, .inl v_octets))]
def fX4_writeTime (v_octets : Nat → Int32) (x1 : Int32) (x2 : Int32) : Option ((Nat → Int32)) := nt1 (fX4_figures (x2 / (4500 : Int32))) fun r_1 => og (ixb x1 12) (nm (upd v_octets (Int32.toNatClampNeg x1) r_1) fun v_octets_4 => nt1 (fX4_figures ((x2 / (75 : Int32)) - (x2 / (75 : Int32)) / (60 : Int32) * (60 : Int32))) fun r_5 => og (ixb (x1 + (1 : Int32)) 12) (nm (upd v_octets_4 (Int32.toNatClampNeg (x1 + (1 : Int32))) r_5) fun v_octets_8 => nt1 (fX4_figures (x2 - x2 / (75 : Int32) * (75 : Int32))) fun r_9 => og (ixb (x1 + (2 : Int32)) 12) (nm (upd v_octets_8 (Int32.toNatClampNeg (x1 + (2 : Int32))) r_9) fun v_octets_12 => some v_octets_12)))
set_option maxHeartbeats 4000000 in
set_option maxRecDepth 100000 in
theorem ct_X4_writeTime (l : Launch) (D : va_G) (cB cI cZ : ClassId) (tw : Nat) (a_this : Nat) (a_octets : Nat) (v_octets : Nat → Int32) (x1 : Int32) (x2 : Int32) (res : (Nat → Int32)) (h : fX4_writeTime v_octets x1 x2 = some res) : Ctr l yX4_writeTime cX4_writeTime 3 none (rmK 1 20) D (tyL cB cI cZ) tw [.ref a_this, .int x1, .int x2] (wX4_writeTime cB cI cZ a_this a_octets v_octets) (fun _ : (Nat → Int32) => none) (fun res : (Nat → Int32) => (wX4_writeTime cB cI cZ a_this a_octets res)) res := by
  refine ctr_of RX4 (by decide) rfl (Nat.le_of_ble_eq_true rfl) ?_
  intro p e s m below meth c A C hw ls hl
  have hx := C.1
  have hb := C.2.1
  have hl : lv_has ls 3 [(0, .ref a_this), (1, .int x1), (2, .int x2)] := hl
  unfold fX4_writeTime at h
  refine lv_aload_n (pc := 0) hx hb dX4_writeTime_0 rfl (lv_at hl 0 rfl) ?_
  refine gf_X4_7 (pc := 1) C hw 0 rfl rfl dX4_writeTime_1 ?_
  refine lv_iload_n (pc := 4) hx hb dX4_writeTime_4 rfl (lv_at hl 1 rfl) ?_
  refine lv_iload_n (pc := 5) hx hb dX4_writeTime_5 rfl (lv_at hl 2 rfl) ?_
  refine lv_sipush (pc := 6) (v := 4500) hx hb dX4_writeTime_6 (by decide) ?_
  refine lv_idiv (pc := 9) hx hb dX4_writeTime_9 (by decide) ?_
  obtain ⟨r_1, hq_2, h⟩ := nt1_at h
  refine x_callS (pc := 10) (rest := [.int x1, .ref a_octets]) (stk := [.int r_1, .int x1, .ref a_octets]) (wX4_writeTime cB cI cZ a_this a_octets v_octets) C hw (ct_X4_figures l D cB cI cZ tw (x2 / (4500 : Int32)) r_1 hq_2.symm) cal_X4_figures tw_532 [] [0, 1] 2 [oX4 a_this a_octets, (a_octets, .inl (cI, 12, .inl v_octets))] rfl rfl rfl rfl rfl rfl rfl rfl rfl rfl rfl (Nat.le_of_ble_eq_true rfl) hl.1 ⟨Nat.le_of_ble_eq_true rfl, Nat.le_of_ble_eq_true rfl⟩ ⟨Nat.zero_le _, Nat.zero_le _⟩ dX4_writeTime_10 (fun H locs hw => ?_)
  obtain ⟨hi_3, h⟩ := og_at h
  obtain ⟨v_octets_4, ev_octets_4⟩ : ∃ y : Nat → Int32, y = upd v_octets (Int32.toNatClampNeg x1) r_1 := ⟨_, rfl⟩
  have h := nm_at ev_octets_4 h
  refine x_iast (pc := 13) (wX4_writeTime cB cI cZ a_this a_octets v_octets_4) C hw 1 rfl hi_3 (by rw [ev_octets_4]; rfl) dX4_writeTime_13 (fun H locs hw => ?_)
  refine lv_aload_n (pc := 14) hx hb dX4_writeTime_14 rfl (lv_at hl 0 rfl) ?_
  refine gf_X4_7 (pc := 15) C hw 0 rfl rfl dX4_writeTime_15 ?_
  refine lv_iload_n (pc := 18) hx hb dX4_writeTime_18 rfl (lv_at hl 1 rfl) ?_
  refine lv_iconst (pc := 19) (v := 1) hx hb dX4_writeTime_19 (by decide) ?_
  refine lv_iadd (pc := 20) hx hb dX4_writeTime_20 ?_
  refine lv_iload_n (pc := 21) hx hb dX4_writeTime_21 rfl (lv_at hl 2 rfl) ?_
  refine lv_bipush (pc := 22) (v := 75) hx hb dX4_writeTime_22 (by decide) ?_
  refine lv_idiv (pc := 24) hx hb dX4_writeTime_24 (by decide) ?_
  refine lv_bipush (pc := 25) (v := 60) hx hb dX4_writeTime_25 (by decide) ?_
  refine lv_irem (pc := 27) hx hb dX4_writeTime_27 (by decide) ?_
  obtain ⟨r_5, hq_6, h⟩ := nt1_at h
  refine x_callS (pc := 28) (rest := [.int (x1 + (1 : Int32)), .ref a_octets]) (stk := [.int r_5, .int (x1 + (1 : Int32)), .ref a_octets]) (wX4_writeTime cB cI cZ a_this a_octets v_octets_4) C hw (ct_X4_figures l D cB cI cZ tw ((x2 / (75 : Int32)) - (x2 / (75 : Int32)) / (60 : Int32) * (60 : Int32)) r_5 hq_6.symm) cal_X4_figures tw_532 [] [0, 1] 2 [oX4 a_this a_octets, (a_octets, .inl (cI, 12, .inl v_octets_4))] rfl rfl rfl rfl rfl rfl rfl rfl rfl rfl rfl (Nat.le_of_ble_eq_true rfl) hl.1 ⟨Nat.le_of_ble_eq_true rfl, Nat.le_of_ble_eq_true rfl⟩ ⟨Nat.zero_le _, Nat.zero_le _⟩ dX4_writeTime_28 (fun H locs hw => ?_)
  obtain ⟨hi_7, h⟩ := og_at h
  obtain ⟨v_octets_8, ev_octets_8⟩ : ∃ y : Nat → Int32, y = upd v_octets_4 (Int32.toNatClampNeg (x1 + (1 : Int32))) r_5 := ⟨_, rfl⟩
  have h := nm_at ev_octets_8 h
  refine x_iast (pc := 31) (wX4_writeTime cB cI cZ a_this a_octets v_octets_8) C hw 1 rfl hi_7 (by rw [ev_octets_8]; rfl) dX4_writeTime_31 (fun H locs hw => ?_)
  refine lv_aload_n (pc := 32) hx hb dX4_writeTime_32 rfl (lv_at hl 0 rfl) ?_
  refine gf_X4_7 (pc := 33) C hw 0 rfl rfl dX4_writeTime_33 ?_
  refine lv_iload_n (pc := 36) hx hb dX4_writeTime_36 rfl (lv_at hl 1 rfl) ?_
  refine lv_iconst (pc := 37) (v := 2) hx hb dX4_writeTime_37 (by decide) ?_
  refine lv_iadd (pc := 38) hx hb dX4_writeTime_38 ?_
  refine lv_iload_n (pc := 39) hx hb dX4_writeTime_39 rfl (lv_at hl 2 rfl) ?_
  refine lv_bipush (pc := 40) (v := 75) hx hb dX4_writeTime_40 (by decide) ?_
  refine lv_irem (pc := 42) hx hb dX4_writeTime_42 (by decide) ?_
  obtain ⟨r_9, hq_10, h⟩ := nt1_at h
  refine x_callS (pc := 43) (rest := [.int (x1 + (2 : Int32)), .ref a_octets]) (stk := [.int r_9, .int (x1 + (2 : Int32)), .ref a_octets]) (wX4_writeTime cB cI cZ a_this a_octets v_octets_8) C hw (ct_X4_figures l D cB cI cZ tw (x2 - x2 / (75 : Int32) * (75 : Int32)) r_9 hq_10.symm) cal_X4_figures tw_532 [] [0, 1] 2 [oX4 a_this a_octets, (a_octets, .inl (cI, 12, .inl v_octets_8))] rfl rfl rfl rfl rfl rfl rfl rfl rfl rfl rfl (Nat.le_of_ble_eq_true rfl) hl.1 ⟨Nat.le_of_ble_eq_true rfl, Nat.le_of_ble_eq_true rfl⟩ ⟨Nat.zero_le _, Nat.zero_le _⟩ dX4_writeTime_43 (fun H locs hw => ?_)
  obtain ⟨hi_11, h⟩ := og_at h
  obtain ⟨v_octets_12, ev_octets_12⟩ : ∃ y : Nat → Int32, y = upd v_octets_8 (Int32.toNatClampNeg (x1 + (2 : Int32))) r_9 := ⟨_, rfl⟩
  have h := nm_at ev_octets_12 h
  refine x_iast (pc := 46) (wX4_writeTime cB cI cZ a_this a_octets v_octets_12) C hw 1 rfl hi_11 (by rw [ev_octets_12]; rfl) dX4_writeTime_46 (fun H locs hw => ?_)
  exact x_vret (pc := 47) (v := v_octets_12) C (Option.some.inj h) rfl hw dX4_writeTime_47
def wX4_bitOf (cB cI cZ : ClassId) (a_this : Nat) (a_octets : Nat) (v_octets : Nat → Int32) : va_W := [oX4 a_this a_octets, (a_octets, .inl (cI, 12, .inl v_octets))]
def fX4_bitOf (v_octets : Nat → Int32) (x1 : Int32) : Option (Int32) := if x1 < 0 then some 0 else if (96 : Int32) ≤ x1 then some 0 else og (ixb (x1 >>> ((3 : Int32) &&& 31) : Int32) 12) (some ((UInt32.toInt32 (Int32.toUInt32 (v_octets (Int32.toNatClampNeg (x1 >>> ((3 : Int32) &&& 31) : Int32))) >>> (Int32.toUInt32 ((7 : Int32) - (x1 &&& (7 : Int32))) &&& Int32.toUInt32 31))) &&& (1 : Int32)))
set_option maxHeartbeats 4000000 in
set_option maxRecDepth 100000 in
theorem ct_X4_bitOf (l : Launch) (D : va_G) (cB cI cZ : ClassId) (tw : Nat) (a_this : Nat) (a_octets : Nat) (v_octets : Nat → Int32) (x1 : Int32) (res : Int32) (h : fX4_bitOf v_octets x1 = some res) : Ctr l yX4_bitOf cX4_bitOf 2 (some .int) (rmK 0 0) D (tyL cB cI cZ) tw [.ref a_this, .int x1] (wX4_bitOf cB cI cZ a_this a_octets v_octets) (fun res : Int32 => some (.int res)) (fun res : Int32 => (wX4_bitOf cB cI cZ a_this a_octets v_octets)) res := by
  refine ctr_of RX4 (by decide) rfl (Nat.le_of_ble_eq_true rfl) ?_
  intro p e s m below meth c A C hw ls hl
  have hx := C.1
  have hb := C.2.1
  have hl : lv_has ls 2 [(0, .ref a_this), (1, .int x1)] := hl
  unfold fX4_bitOf at h
  refine lv_iload_n (pc := 0) hx hb dX4_bitOf_0 rfl (lv_at hl 1 rfl) ?_
  refine lv_if_lt (pc := 1) (tgt := 31) hx hb dX4_bitOf_1 (by decide) (fun hc_1 => ?_) (fun hc_1 => ?_)
  · have h := ift hc_1 h
    refine lv_iconst (pc := 31) (v := 0) hx hb dX4_bitOf_31 (by decide) ?_
    exact x_iret (pc := 32) (v := 0) C (Option.some.inj h) rfl hw dX4_bitOf_32
  · have h := iff' hc_1 h
    refine lv_iload_n (pc := 4) hx hb dX4_bitOf_4 rfl (lv_at hl 1 rfl) ?_
    refine lv_bipush (pc := 5) (v := 96) hx hb dX4_bitOf_5 (by decide) ?_
    refine lv_icmp_ge (pc := 7) (tgt := 31) hx hb dX4_bitOf_7 (by decide) (fun hc_2 => ?_) (fun hc_2 => ?_)
    · have h := ift hc_2 h
      refine lv_iconst (pc := 31) (v := 0) hx hb dX4_bitOf_31 (by decide) ?_
      exact x_iret (pc := 32) (v := 0) C (Option.some.inj h) rfl hw dX4_bitOf_32
    · have h := iff' hc_2 h
      refine lv_aload_n (pc := 10) hx hb dX4_bitOf_10 rfl (lv_at hl 0 rfl) ?_
      refine gf_X4_7 (pc := 11) C hw 0 rfl rfl dX4_bitOf_11 ?_
      refine lv_iload_n (pc := 14) hx hb dX4_bitOf_14 rfl (lv_at hl 1 rfl) ?_
      refine lv_iconst (pc := 15) (v := 3) hx hb dX4_bitOf_15 (by decide) ?_
      refine lv_ishr (pc := 16) hx hb dX4_bitOf_16 ?_
      obtain ⟨hi_3, h⟩ := og_at h
      refine x_iald (pc := 17) C hw 1 rfl hi_3 dX4_bitOf_17 ?_
      refine lv_bipush (pc := 18) (v := 7) hx hb dX4_bitOf_18 (by decide) ?_
      refine lv_iload_n (pc := 20) hx hb dX4_bitOf_20 rfl (lv_at hl 1 rfl) ?_
      refine lv_bipush (pc := 21) (v := 7) hx hb dX4_bitOf_21 (by decide) ?_
      refine lv_iand (pc := 23) hx hb dX4_bitOf_23 ?_
      refine lv_isub (pc := 24) hx hb dX4_bitOf_24 ?_
      refine lv_iushr (pc := 25) hx hb dX4_bitOf_25 rfl ?_
      refine lv_iconst (pc := 26) (v := 1) hx hb dX4_bitOf_26 (by decide) ?_
      refine lv_iand (pc := 27) hx hb dX4_bitOf_27 ?_
      refine lv_goto (pc := 28) (tgt := 32) hx hb dX4_bitOf_28 (by decide) ?_
      exact x_iret (pc := 32) (v := ((UInt32.toInt32 (Int32.toUInt32 (v_octets (Int32.toNatClampNeg (x1 >>> ((3 : Int32) &&& 31) : Int32))) >>> (Int32.toUInt32 ((7 : Int32) - (x1 &&& (7 : Int32))) &&& Int32.toUInt32 31))) &&& (1 : Int32))) C (Option.some.inj h) rfl hw dX4_bitOf_32
def wX4_restOf80 (cB cI cZ : ClassId) (a_this : Nat) (a_octets : Nat) (v_octets : Nat → Int32) : va_W := [oX4 a_this a_octets, (a_octets, .inl (cI, 12, .inl v_octets))]
def fX4_restOf80_L4 (v_octets : Nat → Int32) : Nat → Int32 → Int32 → Option (Int32)
  | 0, _, _ => none
  | F4_3 + 1, x2_1, x1_2 => if (80 : Int32) ≤ x2_1 then some x1_2 else ob1 (fX4_bitOf v_octets x2_1) fun r_5 => nm (((UInt32.toInt32 (Int32.toUInt32 x1_2 >>> (Int32.toUInt32 15 &&& Int32.toUInt32 31))) ^^^ r_5) : Int32) fun x3_7 => nm (((x1_2 <<< ((1 : Int32) &&& 31) : Int32) &&& (65535 : Int32)) : Int32) fun x1_8 => jk (fun (x1_9 : Int32) => nm (x2_1 + 1 : Int32) fun x2_11 => fX4_restOf80_L4 v_octets F4_3 x2_11 x1_9) fun j39_10 => if x3_7 = (1 : Int32) then nm ((x1_8 ^^^ (4129 : Int32)) : Int32) fun x1_13 => j39_10 x1_13 else j39_10 x1_8
def fX4_restOf80 (v_octets : Nat → Int32) : Option (Int32) := fX4_restOf80_L4 v_octets FU 0 0
set_option maxHeartbeats 4000000 in
set_option maxRecDepth 100000 in
theorem ct_X4_restOf80 (l : Launch) (D : va_G) (cB cI cZ : ClassId) (tw : Nat) (a_this : Nat) (a_octets : Nat) (v_octets : Nat → Int32) (res : Int32) (h : fX4_restOf80 v_octets = some res) : Ctr l yX4_restOf80 cX4_restOf80 4 (some .int) (rmK 1 21) D (tyL cB cI cZ) tw [.ref a_this] (wX4_restOf80 cB cI cZ a_this a_octets v_octets) (fun res : Int32 => some (.int res)) (fun res : Int32 => (wX4_restOf80 cB cI cZ a_this a_octets v_octets)) res := by
  refine ctr_of RX4 (by decide) rfl (Nat.le_of_ble_eq_true rfl) ?_
  intro p e s m below meth c A C hw ls hl
  have hx := C.1
  have hb := C.2.1
  have hl : lv_has ls 4 [(0, .ref a_this)] := hl
  unfold fX4_restOf80 at h
  refine lv_iconst (pc := 0) (v := 0) hx hb dX4_restOf80_0 (by decide) ?_
  refine lv_istore_n (pc := 1) (lv' := [(1, .int 0), (0, .ref a_this)]) hx hb dX4_restOf80_1 rfl hl (by decide) rfl (fun ls hl => ?_)
  refine lv_iconst (pc := 2) (v := 0) hx hb dX4_restOf80_2 (by decide) ?_
  refine lv_istore_n (pc := 3) (lv' := [(2, .int 0), (1, .int 0), (0, .ref a_this)]) hx hb dX4_restOf80_3 rfl hl (by decide) rfl (fun ls hl => ?_)
  have Lih4_3 : ∀ (F : Nat) (x2_1 : Int32) (x1_2 : Int32) (ls : Array Slot) (H : Heap) (locs : List Loc), lv_has ls 4 [(2, .int x2_1), (1, .int x1_2), (0, .ref a_this)] → Wd D A s (wX4_restOf80 cB cI cZ a_this a_octets v_octets) H locs → fX4_restOf80_L4 v_octets F x2_1 x1_2 = some res → W p l e (rmK 1 21) s m ([.ref a_this] : List Value).toArray below meth c H locs 0 0 (MQ below (QG D (tyL cB cI cZ) A (fun res : Int32 => some (.int res)) (fun res : Int32 => (wX4_restOf80 cB cI cZ a_this a_octets v_octets)) res) ([.ref a_this] : List Value).toArray s 0 0 A) (F0 m 4 ls []) := by
    intro F
    induction F with
    | zero => intro x2_1 x1_2 ls H locs hl hw h; rw [fX4_restOf80_L4.eq_1] at h; cases h
    | succ F4_3 ih4_3 =>
      intro x2_1 x1_2 ls H locs hl hw h
      rw [fX4_restOf80_L4.eq_2] at h
      refine lv_iload_n (pc := 4) hx hb dX4_restOf80_4 rfl (lv_at hl 0 rfl) ?_
      refine lv_bipush (pc := 5) (v := 80) hx hb dX4_restOf80_5 (by decide) ?_
      refine lv_icmp_ge (pc := 7) (tgt := 45) hx hb dX4_restOf80_7 (by decide) (fun hc_4 => ?_) (fun hc_4 => ?_)
      · have h := ift hc_4 h
        refine lv_iload_n (pc := 45) hx hb dX4_restOf80_45 rfl (lv_at hl 1 rfl) ?_
        exact x_iret (pc := 46) (v := x1_2) C (Option.some.inj h) rfl hw dX4_restOf80_46
      · have h := iff' hc_4 h
        refine lv_iload_n (pc := 10) hx hb dX4_restOf80_10 rfl (lv_at hl 1 rfl) ?_
        refine lv_bipush (pc := 11) (v := 15) hx hb dX4_restOf80_11 (by decide) ?_
        refine lv_iushr (pc := 13) hx hb dX4_restOf80_13 rfl ?_
        refine lv_aload_n (pc := 14) hx hb dX4_restOf80_14 rfl (lv_at hl 2 rfl) ?_
        refine lv_iload_n (pc := 15) hx hb dX4_restOf80_15 rfl (lv_at hl 0 rfl) ?_
        obtain ⟨r_5, hq_6, h⟩ := ob1_at h
        refine x_callV (pc := 16) (rest := [.int (UInt32.toInt32 (Int32.toUInt32 x1_2 >>> (Int32.toUInt32 15 &&& Int32.toUInt32 31)))]) (stk := [.int r_5, .int (UInt32.toInt32 (Int32.toUInt32 x1_2 >>> (Int32.toUInt32 15 &&& Int32.toUInt32 31)))]) (wX4_restOf80 cB cI cZ a_this a_octets v_octets) C hw (ct_X4_bitOf l D cB cI cZ tw a_this a_octets v_octets x2_1 r_5 hq_6) cal_X4_bitOf tw_543 (q0 := 0) rfl rfl [0, 1] [] 2 [] rfl rfl rfl rfl rfl rfl rfl rfl rfl rfl rfl (Nat.le_of_ble_eq_true rfl) hl.1 ⟨Nat.le_of_ble_eq_true rfl, Nat.le_of_ble_eq_true rfl⟩ ⟨Nat.zero_le _, Nat.zero_le _⟩ dX4_restOf80_16 (fun H locs hw => ?_)
        refine lv_ixor (pc := 19) hx hb dX4_restOf80_19 ?_
        refine lv_topi (pc := 20) (fun x3_7 ex3_7 => ?_)
        have h := nm_at ex3_7 h
        refine lv_istore_n (pc := 20) (lv' := [(3, .int x3_7), (2, .int x2_1), (1, .int x1_2), (0, .ref a_this)]) hx hb dX4_restOf80_20 rfl hl (by decide) rfl (fun ls hl => ?_)
        refine lv_iload_n (pc := 21) hx hb dX4_restOf80_21 rfl (lv_at hl 2 rfl) ?_
        refine lv_iconst (pc := 22) (v := 1) hx hb dX4_restOf80_22 (by decide) ?_
        refine lv_ishl (pc := 23) hx hb dX4_restOf80_23 ?_
        refine lv_ldc (pc := 24) (own := RX4) (v := 65535) hx hb C.2.2.2.1 (C.2.2.2.2.1 _ tw_547) dX4_restOf80_24 ?_
        refine lv_iand (pc := 26) hx hb dX4_restOf80_26 ?_
        refine lv_topi (pc := 27) (fun x1_8 ex1_8 => ?_)
        have h := nm_at ex1_8 h
        refine lv_istore_n (pc := 27) (lv' := [(1, .int x1_8), (3, .int x3_7), (2, .int x2_1), (0, .ref a_this)]) hx hb dX4_restOf80_27 rfl hl (by decide) rfl (fun ls hl => ?_)
        refine lv_iload_n (pc := 28) hx hb dX4_restOf80_28 rfl (lv_at hl 1 rfl) ?_
        refine lv_iconst (pc := 29) (v := 1) hx hb dX4_restOf80_29 (by decide) ?_
        obtain ⟨j39_10, ej39_10, h⟩ := jk_at h
        have J39_10 : ∀ (x1_9 : Int32) (ls : Array Slot) (H : Heap) (locs : List Loc), lv_has ls 4 [(1, .int x1_9), (2, .int x2_1), (0, .ref a_this)] → Wd D A s (wX4_restOf80 cB cI cZ a_this a_octets v_octets) H locs → j39_10 x1_9 = some res → W p l e (rmK 1 21) s m ([.ref a_this] : List Value).toArray below meth c H locs 0 0 (MQ below (QG D (tyL cB cI cZ) A (fun res : Int32 => some (.int res)) (fun res : Int32 => (wX4_restOf80 cB cI cZ a_this a_octets v_octets)) res) ([.ref a_this] : List Value).toArray s 0 0 A) (F0 m 39 ls []) := by
          intro x1_9 ls H locs hl hw h
          have h := k1_at ej39_10 h
          obtain ⟨x2_11, ex2_11⟩ : ∃ y : Int32, y = x2_1 + 1 := ⟨_, rfl⟩
          have h := nm_at ex2_11 h
          refine lv_iinc (pc := 39) (v := x2_11) (lv' := [(2, .int x2_11), (1, .int x1_9), (0, .ref a_this)]) hx hb dX4_restOf80_39 hl (k := 1) rfl (by rw [ex2_11]; rfl) (by decide) rfl (fun ls hl => ?_)
          refine lv_goto (pc := 42) (tgt := 4) hx hb dX4_restOf80_42 (by decide) ?_
          exact ih4_3 x2_11 x1_9 ls _ _ (lv_sub hl [0, 1, 2] rfl) hw h
        refine lv_icmp_ne (pc := 30) (tgt := 39) hx hb dX4_restOf80_30 (by decide) (fun hc_12 => ?_) (fun hc_12 => ?_)
        · have h := iff' hc_12 h
          exact J39_10 x1_8 ls _ _ (lv_sub hl [0, 2, 3] rfl) hw h
        · have h := ift hc_12 h
          refine lv_iload_n (pc := 33) hx hb dX4_restOf80_33 rfl (lv_at hl 0 rfl) ?_
          refine lv_sipush (pc := 34) (v := 4129) hx hb dX4_restOf80_34 (by decide) ?_
          refine lv_ixor (pc := 37) hx hb dX4_restOf80_37 ?_
          refine lv_topi (pc := 38) (fun x1_13 ex1_13 => ?_)
          have h := nm_at ex1_13 h
          refine lv_istore_n (pc := 38) (lv' := [(1, .int x1_13), (3, .int x3_7), (2, .int x2_1), (0, .ref a_this)]) hx hb dX4_restOf80_38 rfl hl (by decide) rfl (fun ls hl => ?_)
          exact J39_10 x1_13 ls _ _ (lv_sub hl [0, 2, 3] rfl) hw h
  exact Lih4_3 FU 0 0 ls _ _ (lv_sub hl [0, 1, 2] rfl) hw h
def wX4_write (cB cI cZ : ClassId) (a_this : Nat) (a_octets : Nat) (v_octets : Nat → Int32) : va_W := [oX4 a_this a_octets, (a_octets, .inl (cI, 12, .inl v_octets))]
def fX4_write (v_octets : Nat → Int32) (x1 : Int32) (x2 : Int32) (x3 : Int32) (x4 : Int32) (x5 : Int32) : Option ((Nat → Int32)) := og (ixb 0 12) (nm (upd v_octets (Int32.toNatClampNeg 0) ((x1 <<< ((4 : Int32) &&& 31) : Int32) ||| (1 : Int32))) fun v_octets_2 => nt1 (fX4_figures x2) fun r_3 => og (ixb 1 12) (nm (upd v_octets_2 (Int32.toNatClampNeg 1) r_3) fun v_octets_6 => nt1 (fX4_figures x3) fun r_7 => og (ixb 2 12) (nm (upd v_octets_6 (Int32.toNatClampNeg 2) r_7) fun v_octets_10 => ob1 (fX4_writeTime v_octets_10 3 x4) fun v_octets_11 => og (ixb 6 12) (nm (upd v_octets_11 (Int32.toNatClampNeg 6) 0) fun v_octets_14 => ob1 (fX4_writeTime v_octets_14 7 x5) fun v_octets_15 => ob1 (fX4_restOf80 v_octets_15) fun r_17 => nm ((r_17 ^^^ (-1 : Int32)) : Int32) fun x6_19 => og (ixb 10 12) (nm (upd v_octets_15 (Int32.toNatClampNeg 10) ((UInt32.toInt32 (Int32.toUInt32 x6_19 >>> (Int32.toUInt32 8 &&& Int32.toUInt32 31))) &&& (255 : Int32))) fun v_octets_21 => og (ixb 11 12) (nm (upd v_octets_21 (Int32.toNatClampNeg 11) (x6_19 &&& (255 : Int32))) fun v_octets_23 => some v_octets_23))))))
set_option maxHeartbeats 4000000 in
set_option maxRecDepth 100000 in
theorem ct_X4_write (l : Launch) (D : va_G) (cB cI cZ : ClassId) (tw : Nat) (a_this : Nat) (a_octets : Nat) (v_octets : Nat → Int32) (x1 : Int32) (x2 : Int32) (x3 : Int32) (x4 : Int32) (x5 : Int32) (res : (Nat → Int32)) (h : fX4_write v_octets x1 x2 x3 x4 x5 = some res) : Ctr l yX4_write cX4_write 7 none (rmK 2 44) D (tyL cB cI cZ) tw [.ref a_this, .int x1, .int x2, .int x3, .int x4, .int x5] (wX4_write cB cI cZ a_this a_octets v_octets) (fun _ : (Nat → Int32) => none) (fun res : (Nat → Int32) => (wX4_write cB cI cZ a_this a_octets res)) res := by
  refine ctr_of RX4 (by decide) rfl (Nat.le_of_ble_eq_true rfl) ?_
  intro p e s m below meth c A C hw ls hl
  have hx := C.1
  have hb := C.2.1
  have hl : lv_has ls 7 [(0, .ref a_this), (1, .int x1), (2, .int x2), (3, .int x3), (4, .int x4), (5, .int x5)] := hl
  unfold fX4_write at h
  refine lv_aload_n (pc := 0) hx hb dX4_write_0 rfl (lv_at hl 0 rfl) ?_
  refine gf_X4_7 (pc := 1) C hw 0 rfl rfl dX4_write_1 ?_
  refine lv_iconst (pc := 4) (v := 0) hx hb dX4_write_4 (by decide) ?_
  refine lv_iload_n (pc := 5) hx hb dX4_write_5 rfl (lv_at hl 1 rfl) ?_
  refine lv_iconst (pc := 6) (v := 4) hx hb dX4_write_6 (by decide) ?_
  refine lv_ishl (pc := 7) hx hb dX4_write_7 ?_
  refine lv_iconst (pc := 8) (v := 1) hx hb dX4_write_8 (by decide) ?_
  refine lv_ior (pc := 9) hx hb dX4_write_9 ?_
  obtain ⟨hi_1, h⟩ := og_at h
  obtain ⟨v_octets_2, ev_octets_2⟩ : ∃ y : Nat → Int32, y = upd v_octets (Int32.toNatClampNeg 0) ((x1 <<< ((4 : Int32) &&& 31) : Int32) ||| (1 : Int32)) := ⟨_, rfl⟩
  have h := nm_at ev_octets_2 h
  refine x_iast (pc := 10) (wX4_write cB cI cZ a_this a_octets v_octets_2) C hw 1 rfl hi_1 (by rw [ev_octets_2]; rfl) dX4_write_10 (fun H locs hw => ?_)
  refine lv_aload_n (pc := 11) hx hb dX4_write_11 rfl (lv_at hl 0 rfl) ?_
  refine gf_X4_7 (pc := 12) C hw 0 rfl rfl dX4_write_12 ?_
  refine lv_iconst (pc := 15) (v := 1) hx hb dX4_write_15 (by decide) ?_
  refine lv_iload_n (pc := 16) hx hb dX4_write_16 rfl (lv_at hl 2 rfl) ?_
  obtain ⟨r_3, hq_4, h⟩ := nt1_at h
  refine x_callS (pc := 17) (rest := [.int 1, .ref a_octets]) (stk := [.int r_3, .int 1, .ref a_octets]) (wX4_write cB cI cZ a_this a_octets v_octets_2) C hw (ct_X4_figures l D cB cI cZ tw x2 r_3 hq_4.symm) cal_X4_figures tw_532 [] [0, 1] 2 [oX4 a_this a_octets, (a_octets, .inl (cI, 12, .inl v_octets_2))] rfl rfl rfl rfl rfl rfl rfl rfl rfl rfl rfl (Nat.le_of_ble_eq_true rfl) hl.1 ⟨Nat.le_of_ble_eq_true rfl, Nat.le_of_ble_eq_true rfl⟩ ⟨Nat.zero_le _, Nat.zero_le _⟩ dX4_write_17 (fun H locs hw => ?_)
  obtain ⟨hi_5, h⟩ := og_at h
  obtain ⟨v_octets_6, ev_octets_6⟩ : ∃ y : Nat → Int32, y = upd v_octets_2 (Int32.toNatClampNeg 1) r_3 := ⟨_, rfl⟩
  have h := nm_at ev_octets_6 h
  refine x_iast (pc := 20) (wX4_write cB cI cZ a_this a_octets v_octets_6) C hw 1 rfl hi_5 (by rw [ev_octets_6]; rfl) dX4_write_20 (fun H locs hw => ?_)
  refine lv_aload_n (pc := 21) hx hb dX4_write_21 rfl (lv_at hl 0 rfl) ?_
  refine gf_X4_7 (pc := 22) C hw 0 rfl rfl dX4_write_22 ?_
  refine lv_iconst (pc := 25) (v := 2) hx hb dX4_write_25 (by decide) ?_
  refine lv_iload_n (pc := 26) hx hb dX4_write_26 rfl (lv_at hl 3 rfl) ?_
  obtain ⟨r_7, hq_8, h⟩ := nt1_at h
  refine x_callS (pc := 27) (rest := [.int 2, .ref a_octets]) (stk := [.int r_7, .int 2, .ref a_octets]) (wX4_write cB cI cZ a_this a_octets v_octets_6) C hw (ct_X4_figures l D cB cI cZ tw x3 r_7 hq_8.symm) cal_X4_figures tw_532 [] [0, 1] 2 [oX4 a_this a_octets, (a_octets, .inl (cI, 12, .inl v_octets_6))] rfl rfl rfl rfl rfl rfl rfl rfl rfl rfl rfl (Nat.le_of_ble_eq_true rfl) hl.1 ⟨Nat.le_of_ble_eq_true rfl, Nat.le_of_ble_eq_true rfl⟩ ⟨Nat.zero_le _, Nat.zero_le _⟩ dX4_write_27 (fun H locs hw => ?_)
  obtain ⟨hi_9, h⟩ := og_at h
  obtain ⟨v_octets_10, ev_octets_10⟩ : ∃ y : Nat → Int32, y = upd v_octets_6 (Int32.toNatClampNeg 2) r_7 := ⟨_, rfl⟩
  have h := nm_at ev_octets_10 h
  refine x_iast (pc := 30) (wX4_write cB cI cZ a_this a_octets v_octets_10) C hw 1 rfl hi_9 (by rw [ev_octets_10]; rfl) dX4_write_30 (fun H locs hw => ?_)
  refine lv_aload_n (pc := 31) hx hb dX4_write_31 rfl (lv_at hl 0 rfl) ?_
  refine lv_iconst (pc := 32) (v := 3) hx hb dX4_write_32 (by decide) ?_
  refine lv_iload (pc := 33) hx hb dX4_write_33 (lv_at hl 4 rfl) ?_
  obtain ⟨v_octets_11, hq_12, h⟩ := ob1_at h
  refine x_callV (pc := 35) (rest := []) (stk := []) (wX4_write cB cI cZ a_this a_octets v_octets_11) C hw (ct_X4_writeTime l D cB cI cZ tw a_this a_octets v_octets_10 3 x4 v_octets_11 hq_12) cal_X4_writeTime tw_535 (q0 := 0) rfl rfl [0, 1] [] 2 [] rfl rfl rfl rfl rfl rfl rfl rfl rfl rfl rfl (Nat.le_of_ble_eq_true rfl) hl.1 ⟨Nat.le_of_ble_eq_true rfl, Nat.le_of_ble_eq_true rfl⟩ ⟨Nat.zero_le _, Nat.zero_le _⟩ dX4_write_35 (fun H locs hw => ?_)
  refine lv_aload_n (pc := 38) hx hb dX4_write_38 rfl (lv_at hl 0 rfl) ?_
  refine gf_X4_7 (pc := 39) C hw 0 rfl rfl dX4_write_39 ?_
  refine lv_bipush (pc := 42) (v := 6) hx hb dX4_write_42 (by decide) ?_
  refine lv_iconst (pc := 44) (v := 0) hx hb dX4_write_44 (by decide) ?_
  obtain ⟨hi_13, h⟩ := og_at h
  obtain ⟨v_octets_14, ev_octets_14⟩ : ∃ y : Nat → Int32, y = upd v_octets_11 (Int32.toNatClampNeg 6) 0 := ⟨_, rfl⟩
  have h := nm_at ev_octets_14 h
  refine x_iast (pc := 45) (wX4_write cB cI cZ a_this a_octets v_octets_14) C hw 1 rfl hi_13 (by rw [ev_octets_14]; rfl) dX4_write_45 (fun H locs hw => ?_)
  refine lv_aload_n (pc := 46) hx hb dX4_write_46 rfl (lv_at hl 0 rfl) ?_
  refine lv_bipush (pc := 47) (v := 7) hx hb dX4_write_47 (by decide) ?_
  refine lv_iload (pc := 49) hx hb dX4_write_49 (lv_at hl 5 rfl) ?_
  obtain ⟨v_octets_15, hq_16, h⟩ := ob1_at h
  refine x_callV (pc := 51) (rest := []) (stk := []) (wX4_write cB cI cZ a_this a_octets v_octets_15) C hw (ct_X4_writeTime l D cB cI cZ tw a_this a_octets v_octets_14 7 x5 v_octets_15 hq_16) cal_X4_writeTime tw_535 (q0 := 0) rfl rfl [0, 1] [] 2 [] rfl rfl rfl rfl rfl rfl rfl rfl rfl rfl rfl (Nat.le_of_ble_eq_true rfl) hl.1 ⟨Nat.le_of_ble_eq_true rfl, Nat.le_of_ble_eq_true rfl⟩ ⟨Nat.zero_le _, Nat.zero_le _⟩ dX4_write_51 (fun H locs hw => ?_)
  refine lv_aload_n (pc := 54) hx hb dX4_write_54 rfl (lv_at hl 0 rfl) ?_
  obtain ⟨r_17, hq_18, h⟩ := ob1_at h
  refine x_callV (pc := 55) (rest := []) (stk := [.int r_17]) (wX4_write cB cI cZ a_this a_octets v_octets_15) C hw (ct_X4_restOf80 l D cB cI cZ tw a_this a_octets v_octets_15 r_17 hq_18) cal_X4_restOf80 tw_539 (q0 := 0) rfl rfl [0, 1] [] 2 [] rfl rfl rfl rfl rfl rfl rfl rfl rfl rfl rfl (Nat.le_of_ble_eq_true rfl) hl.1 ⟨Nat.le_of_ble_eq_true rfl, Nat.le_of_ble_eq_true rfl⟩ ⟨Nat.zero_le _, Nat.zero_le _⟩ dX4_write_55 (fun H locs hw => ?_)
  refine lv_iconst (pc := 58) (v := (-1)) hx hb dX4_write_58 (by decide) ?_
  refine lv_ixor (pc := 59) hx hb dX4_write_59 ?_
  refine lv_topi (pc := 60) (fun x6_19 ex6_19 => ?_)
  have h := nm_at ex6_19 h
  refine lv_istore (pc := 60) (lv' := [(6, .int x6_19), (0, .ref a_this), (1, .int x1), (2, .int x2), (3, .int x3), (4, .int x4), (5, .int x5)]) hx hb dX4_write_60 hl (by decide) rfl (fun ls hl => ?_)
  refine lv_aload_n (pc := 62) hx hb dX4_write_62 rfl (lv_at hl 1 rfl) ?_
  refine gf_X4_7 (pc := 63) C hw 0 rfl rfl dX4_write_63 ?_
  refine lv_bipush (pc := 66) (v := 10) hx hb dX4_write_66 (by decide) ?_
  refine lv_iload (pc := 68) hx hb dX4_write_68 (lv_at hl 0 rfl) ?_
  refine lv_bipush (pc := 70) (v := 8) hx hb dX4_write_70 (by decide) ?_
  refine lv_iushr (pc := 72) hx hb dX4_write_72 rfl ?_
  refine lv_sipush (pc := 73) (v := 255) hx hb dX4_write_73 (by decide) ?_
  refine lv_iand (pc := 76) hx hb dX4_write_76 ?_
  obtain ⟨hi_20, h⟩ := og_at h
  obtain ⟨v_octets_21, ev_octets_21⟩ : ∃ y : Nat → Int32, y = upd v_octets_15 (Int32.toNatClampNeg 10) ((UInt32.toInt32 (Int32.toUInt32 x6_19 >>> (Int32.toUInt32 8 &&& Int32.toUInt32 31))) &&& (255 : Int32)) := ⟨_, rfl⟩
  have h := nm_at ev_octets_21 h
  refine x_iast (pc := 77) (wX4_write cB cI cZ a_this a_octets v_octets_21) C hw 1 rfl hi_20 (by rw [ev_octets_21]; rfl) dX4_write_77 (fun H locs hw => ?_)
  refine lv_aload_n (pc := 78) hx hb dX4_write_78 rfl (lv_at hl 1 rfl) ?_
  refine gf_X4_7 (pc := 79) C hw 0 rfl rfl dX4_write_79 ?_
  refine lv_bipush (pc := 82) (v := 11) hx hb dX4_write_82 (by decide) ?_
  refine lv_iload (pc := 84) hx hb dX4_write_84 (lv_at hl 0 rfl) ?_
  refine lv_sipush (pc := 86) (v := 255) hx hb dX4_write_86 (by decide) ?_
  refine lv_iand (pc := 89) hx hb dX4_write_89 ?_
  obtain ⟨hi_22, h⟩ := og_at h
  obtain ⟨v_octets_23, ev_octets_23⟩ : ∃ y : Nat → Int32, y = upd v_octets_21 (Int32.toNatClampNeg 11) (x6_19 &&& (255 : Int32)) := ⟨_, rfl⟩
  have h := nm_at ev_octets_23 h
  refine x_iast (pc := 90) (wX4_write cB cI cZ a_this a_octets v_octets_23) C hw 1 rfl hi_22 (by rw [ev_octets_23]; rfl) dX4_write_90 (fun H locs hw => ?_)
  exact x_vret (pc := 91) (v := v_octets_23) C (Option.some.inj h) rfl hw dX4_write_91
def wX4_setBit (cB cI cZ : ClassId) (a_this : Nat) (a_octets : Nat) (v_octets : Nat → Int32) : va_W := [oX4 a_this a_octets, (a_octets, .inl (cI, 12, .inl v_octets))]
def fX4_setBit (v_octets : Nat → Int32) (x1 : Int32) (x2 : Int32) : Option ((Nat → Int32)) := if x1 < 0 then some v_octets else if (96 : Int32) ≤ x1 then some v_octets else nm (((7 : Int32) - (x1 &&& (7 : Int32))) : Int32) fun x3_3 => og (ixb (x1 >>> ((3 : Int32) &&& 31) : Int32) 12) (og (ixb (x1 >>> ((3 : Int32) &&& 31) : Int32) 12) (nm (upd v_octets (Int32.toNatClampNeg (x1 >>> ((3 : Int32) &&& 31) : Int32)) (((v_octets (Int32.toNatClampNeg (x1 >>> ((3 : Int32) &&& 31) : Int32))) &&& (((1 : Int32) <<< (x3_3 &&& 31) : Int32) ^^^ (-1 : Int32))) ||| (x2 <<< (x3_3 &&& 31) : Int32))) fun v_octets_6 => some v_octets_6))
set_option maxHeartbeats 4000000 in
set_option maxRecDepth 100000 in
theorem ct_X4_setBit (l : Launch) (D : va_G) (cB cI cZ : ClassId) (tw : Nat) (a_this : Nat) (a_octets : Nat) (v_octets : Nat → Int32) (x1 : Int32) (x2 : Int32) (res : (Nat → Int32)) (h : fX4_setBit v_octets x1 x2 = some res) : Ctr l yX4_setBit cX4_setBit 4 none (rmK 0 0) D (tyL cB cI cZ) tw [.ref a_this, .int x1, .int x2] (wX4_setBit cB cI cZ a_this a_octets v_octets) (fun _ : (Nat → Int32) => none) (fun res : (Nat → Int32) => (wX4_setBit cB cI cZ a_this a_octets res)) res := by
  refine ctr_of RX4 (by decide) rfl (Nat.le_of_ble_eq_true rfl) ?_
  intro p e s m below meth c A C hw ls hl
  have hx := C.1
  have hb := C.2.1
  have hl : lv_has ls 4 [(0, .ref a_this), (1, .int x1), (2, .int x2)] := hl
  unfold fX4_setBit at h
  refine lv_iload_n (pc := 0) hx hb dX4_setBit_0 rfl (lv_at hl 1 rfl) ?_
  refine lv_if_lt (pc := 1) (tgt := 44) hx hb dX4_setBit_1 (by decide) (fun hc_1 => ?_) (fun hc_1 => ?_)
  · have h := ift hc_1 h
    exact x_vret (pc := 44) (v := v_octets) C (Option.some.inj h) rfl hw dX4_setBit_44
  · have h := iff' hc_1 h
    refine lv_iload_n (pc := 4) hx hb dX4_setBit_4 rfl (lv_at hl 1 rfl) ?_
    refine lv_bipush (pc := 5) (v := 96) hx hb dX4_setBit_5 (by decide) ?_
    refine lv_icmp_ge (pc := 7) (tgt := 44) hx hb dX4_setBit_7 (by decide) (fun hc_2 => ?_) (fun hc_2 => ?_)
    · have h := ift hc_2 h
      exact x_vret (pc := 44) (v := v_octets) C (Option.some.inj h) rfl hw dX4_setBit_44
    · have h := iff' hc_2 h
      refine lv_bipush (pc := 10) (v := 7) hx hb dX4_setBit_10 (by decide) ?_
      refine lv_iload_n (pc := 12) hx hb dX4_setBit_12 rfl (lv_at hl 1 rfl) ?_
      refine lv_bipush (pc := 13) (v := 7) hx hb dX4_setBit_13 (by decide) ?_
      refine lv_iand (pc := 15) hx hb dX4_setBit_15 ?_
      refine lv_isub (pc := 16) hx hb dX4_setBit_16 ?_
      refine lv_topi (pc := 17) (fun x3_3 ex3_3 => ?_)
      have h := nm_at ex3_3 h
      refine lv_istore_n (pc := 17) (lv' := [(3, .int x3_3), (0, .ref a_this), (1, .int x1), (2, .int x2)]) hx hb dX4_setBit_17 rfl hl (by decide) rfl (fun ls hl => ?_)
      refine lv_aload_n (pc := 18) hx hb dX4_setBit_18 rfl (lv_at hl 1 rfl) ?_
      refine gf_X4_7 (pc := 19) C hw 0 rfl rfl dX4_setBit_19 ?_
      refine lv_iload_n (pc := 22) hx hb dX4_setBit_22 rfl (lv_at hl 2 rfl) ?_
      refine lv_iconst (pc := 23) (v := 3) hx hb dX4_setBit_23 (by decide) ?_
      refine lv_ishr (pc := 24) hx hb dX4_setBit_24 ?_
      refine lv_aload_n (pc := 25) hx hb dX4_setBit_25 rfl (lv_at hl 1 rfl) ?_
      refine gf_X4_7 (pc := 26) C hw 0 rfl rfl dX4_setBit_26 ?_
      refine lv_iload_n (pc := 29) hx hb dX4_setBit_29 rfl (lv_at hl 2 rfl) ?_
      refine lv_iconst (pc := 30) (v := 3) hx hb dX4_setBit_30 (by decide) ?_
      refine lv_ishr (pc := 31) hx hb dX4_setBit_31 ?_
      obtain ⟨hi_4, h⟩ := og_at h
      refine x_iald (pc := 32) C hw 1 rfl hi_4 dX4_setBit_32 ?_
      refine lv_iconst (pc := 33) (v := 1) hx hb dX4_setBit_33 (by decide) ?_
      refine lv_iload_n (pc := 34) hx hb dX4_setBit_34 rfl (lv_at hl 0 rfl) ?_
      refine lv_ishl (pc := 35) hx hb dX4_setBit_35 ?_
      refine lv_iconst (pc := 36) (v := (-1)) hx hb dX4_setBit_36 (by decide) ?_
      refine lv_ixor (pc := 37) hx hb dX4_setBit_37 ?_
      refine lv_iand (pc := 38) hx hb dX4_setBit_38 ?_
      refine lv_iload_n (pc := 39) hx hb dX4_setBit_39 rfl (lv_at hl 3 rfl) ?_
      refine lv_iload_n (pc := 40) hx hb dX4_setBit_40 rfl (lv_at hl 0 rfl) ?_
      refine lv_ishl (pc := 41) hx hb dX4_setBit_41 ?_
      refine lv_ior (pc := 42) hx hb dX4_setBit_42 ?_
      obtain ⟨hi_5, h⟩ := og_at h
      obtain ⟨v_octets_6, ev_octets_6⟩ : ∃ y : Nat → Int32, y = upd v_octets (Int32.toNatClampNeg (x1 >>> ((3 : Int32) &&& 31) : Int32)) (((v_octets (Int32.toNatClampNeg (x1 >>> ((3 : Int32) &&& 31) : Int32))) &&& (((1 : Int32) <<< (x3_3 &&& 31) : Int32) ^^^ (-1 : Int32))) ||| (x2 <<< (x3_3 &&& 31) : Int32)) := ⟨_, rfl⟩
      have h := nm_at ev_octets_6 h
      refine x_iast (pc := 43) (wX4_setBit cB cI cZ a_this a_octets v_octets_6) C hw 1 rfl hi_5 (by rw [ev_octets_6]; rfl) dX4_setBit_43 (fun H locs hw => ?_)
      exact x_vret (pc := 44) (v := v_octets_6) C (Option.some.inj h) rfl hw dX4_setBit_44
def wX4_areFigures (cB cI cZ : ClassId) (a_this : Nat) (a_octets : Nat) (v_octets : Nat → Int32) : va_W := [oX4 a_this a_octets, (a_octets, .inl (cI, 12, .inl v_octets))]
def fX4_areFigures (v_octets : Nat → Int32) (x1 : Int32) : Option (Int32) := og (ixb x1 12) (if (9 : Int32) < (UInt32.toInt32 (Int32.toUInt32 (v_octets (Int32.toNatClampNeg x1)) >>> (Int32.toUInt32 4 &&& Int32.toUInt32 31))) then some 0 else og (ixb x1 12) (if (9 : Int32) < ((v_octets (Int32.toNatClampNeg x1)) &&& (15 : Int32)) then some 0 else some 1))
set_option maxHeartbeats 4000000 in
set_option maxRecDepth 100000 in
theorem ct_X4_areFigures (l : Launch) (D : va_G) (cB cI cZ : ClassId) (tw : Nat) (a_this : Nat) (a_octets : Nat) (v_octets : Nat → Int32) (x1 : Int32) (res : Int32) (h : fX4_areFigures v_octets x1 = some res) : Ctr l yX4_areFigures cX4_areFigures 2 (some .boolean) (rmK 0 0) D (tyL cB cI cZ) tw [.ref a_this, .int x1] (wX4_areFigures cB cI cZ a_this a_octets v_octets) (fun res : Int32 => some (.int res)) (fun res : Int32 => (wX4_areFigures cB cI cZ a_this a_octets v_octets)) res := by
  refine ctr_of RX4 (by decide) rfl (Nat.le_of_ble_eq_true rfl) ?_
  intro p e s m below meth c A C hw ls hl
  have hx := C.1
  have hb := C.2.1
  have hl : lv_has ls 2 [(0, .ref a_this), (1, .int x1)] := hl
  unfold fX4_areFigures at h
  refine lv_aload_n (pc := 0) hx hb dX4_areFigures_0 rfl (lv_at hl 0 rfl) ?_
  refine gf_X4_7 (pc := 1) C hw 0 rfl rfl dX4_areFigures_1 ?_
  refine lv_iload_n (pc := 4) hx hb dX4_areFigures_4 rfl (lv_at hl 1 rfl) ?_
  obtain ⟨hi_1, h⟩ := og_at h
  refine x_iald (pc := 5) C hw 1 rfl hi_1 dX4_areFigures_5 ?_
  refine lv_iconst (pc := 6) (v := 4) hx hb dX4_areFigures_6 (by decide) ?_
  refine lv_iushr (pc := 7) hx hb dX4_areFigures_7 rfl ?_
  refine lv_bipush (pc := 8) (v := 9) hx hb dX4_areFigures_8 (by decide) ?_
  refine lv_icmp_gt (pc := 10) (tgt := 31) hx hb dX4_areFigures_10 (by decide) (fun hc_2 => ?_) (fun hc_2 => ?_)
  · have h := ift hc_2 h
    refine lv_iconst (pc := 31) (v := 0) hx hb dX4_areFigures_31 (by decide) ?_
    exact x_zret (pc := 32) (v := 0) C (Option.some.inj h) rfl rfl hw dX4_areFigures_32
  · have h := iff' hc_2 h
    refine lv_aload_n (pc := 13) hx hb dX4_areFigures_13 rfl (lv_at hl 0 rfl) ?_
    refine gf_X4_7 (pc := 14) C hw 0 rfl rfl dX4_areFigures_14 ?_
    refine lv_iload_n (pc := 17) hx hb dX4_areFigures_17 rfl (lv_at hl 1 rfl) ?_
    obtain ⟨hi_3, h⟩ := og_at h
    refine x_iald (pc := 18) C hw 1 rfl hi_3 dX4_areFigures_18 ?_
    refine lv_bipush (pc := 19) (v := 15) hx hb dX4_areFigures_19 (by decide) ?_
    refine lv_iand (pc := 21) hx hb dX4_areFigures_21 ?_
    refine lv_bipush (pc := 22) (v := 9) hx hb dX4_areFigures_22 (by decide) ?_
    refine lv_icmp_gt (pc := 24) (tgt := 31) hx hb dX4_areFigures_24 (by decide) (fun hc_4 => ?_) (fun hc_4 => ?_)
    · have h := ift hc_4 h
      refine lv_iconst (pc := 31) (v := 0) hx hb dX4_areFigures_31 (by decide) ?_
      exact x_zret (pc := 32) (v := 0) C (Option.some.inj h) rfl rfl hw dX4_areFigures_32
    · have h := iff' hc_4 h
      refine lv_iconst (pc := 27) (v := 1) hx hb dX4_areFigures_27 (by decide) ?_
      refine lv_goto (pc := 28) (tgt := 32) hx hb dX4_areFigures_28 (by decide) ?_
      exact x_zret (pc := 32) (v := 1) C (Option.some.inj h) rfl rfl hw dX4_areFigures_32
def wX4_number (cB cI cZ : ClassId) (a_this : Nat) (a_octets : Nat) (v_octets : Nat → Int32) : va_W := [oX4 a_this a_octets, (a_octets, .inl (cI, 12, .inl v_octets))]
def fX4_number (v_octets : Nat → Int32) (x1 : Int32) : Option (Int32) := og (ixb x1 12) (og (ixb x1 12) (some (((UInt32.toInt32 (Int32.toUInt32 (v_octets (Int32.toNatClampNeg x1)) >>> (Int32.toUInt32 4 &&& Int32.toUInt32 31))) * (10 : Int32)) + ((v_octets (Int32.toNatClampNeg x1)) &&& (15 : Int32)))))
set_option maxHeartbeats 4000000 in
set_option maxRecDepth 100000 in
theorem ct_X4_number (l : Launch) (D : va_G) (cB cI cZ : ClassId) (tw : Nat) (a_this : Nat) (a_octets : Nat) (v_octets : Nat → Int32) (x1 : Int32) (res : Int32) (h : fX4_number v_octets x1 = some res) : Ctr l yX4_number cX4_number 2 (some .int) (rmK 0 0) D (tyL cB cI cZ) tw [.ref a_this, .int x1] (wX4_number cB cI cZ a_this a_octets v_octets) (fun res : Int32 => some (.int res)) (fun res : Int32 => (wX4_number cB cI cZ a_this a_octets v_octets)) res := by
  refine ctr_of RX4 (by decide) rfl (Nat.le_of_ble_eq_true rfl) ?_
  intro p e s m below meth c A C hw ls hl
  have hx := C.1
  have hb := C.2.1
  have hl : lv_has ls 2 [(0, .ref a_this), (1, .int x1)] := hl
  unfold fX4_number at h
  refine lv_aload_n (pc := 0) hx hb dX4_number_0 rfl (lv_at hl 0 rfl) ?_
  refine gf_X4_7 (pc := 1) C hw 0 rfl rfl dX4_number_1 ?_
  refine lv_iload_n (pc := 4) hx hb dX4_number_4 rfl (lv_at hl 1 rfl) ?_
  obtain ⟨hi_1, h⟩ := og_at h
  refine x_iald (pc := 5) C hw 1 rfl hi_1 dX4_number_5 ?_
  refine lv_iconst (pc := 6) (v := 4) hx hb dX4_number_6 (by decide) ?_
  refine lv_iushr (pc := 7) hx hb dX4_number_7 rfl ?_
  refine lv_bipush (pc := 8) (v := 10) hx hb dX4_number_8 (by decide) ?_
  refine lv_imul (pc := 10) hx hb dX4_number_10 ?_
  refine lv_aload_n (pc := 11) hx hb dX4_number_11 rfl (lv_at hl 0 rfl) ?_
  refine gf_X4_7 (pc := 12) C hw 0 rfl rfl dX4_number_12 ?_
  refine lv_iload_n (pc := 15) hx hb dX4_number_15 rfl (lv_at hl 1 rfl) ?_
  obtain ⟨hi_2, h⟩ := og_at h
  refine x_iald (pc := 16) C hw 1 rfl hi_2 dX4_number_16 ?_
  refine lv_bipush (pc := 17) (v := 15) hx hb dX4_number_17 (by decide) ?_
  refine lv_iand (pc := 19) hx hb dX4_number_19 ?_
  refine lv_iadd (pc := 20) hx hb dX4_number_20 ?_
  exact x_iret (pc := 21) (v := (((UInt32.toInt32 (Int32.toUInt32 (v_octets (Int32.toNatClampNeg x1)) >>> (Int32.toUInt32 4 &&& Int32.toUInt32 31))) * (10 : Int32)) + ((v_octets (Int32.toNatClampNeg x1)) &&& (15 : Int32)))) C (Option.some.inj h) rfl hw dX4_number_21
def wX4_isTime (cB cI cZ : ClassId) (a_this : Nat) (a_octets : Nat) (v_octets : Nat → Int32) : va_W := [oX4 a_this a_octets, (a_octets, .inl (cI, 12, .inl v_octets))]
def fX4_isTime (v_octets : Nat → Int32) (x1 : Int32) : Option (Int32) := ob1 (fX4_areFigures v_octets x1) fun r_1 => if r_1 = 0 then some 0 else ob1 (fX4_areFigures v_octets (x1 + (1 : Int32))) fun r_4 => if r_4 = 0 then some 0 else ob1 (fX4_areFigures v_octets (x1 + (2 : Int32))) fun r_7 => if r_7 = 0 then some 0 else ob1 (fX4_number v_octets (x1 + (1 : Int32))) fun r_10 => if (60 : Int32) ≤ r_10 then some 0 else ob1 (fX4_number v_octets (x1 + (2 : Int32))) fun r_13 => if (75 : Int32) ≤ r_13 then some 0 else some 1
set_option maxHeartbeats 4000000 in
set_option maxRecDepth 100000 in
theorem ct_X4_isTime (l : Launch) (D : va_G) (cB cI cZ : ClassId) (tw : Nat) (a_this : Nat) (a_octets : Nat) (v_octets : Nat → Int32) (x1 : Int32) (res : Int32) (h : fX4_isTime v_octets x1 = some res) : Ctr l yX4_isTime cX4_isTime 2 (some .boolean) (rmK 1 21) D (tyL cB cI cZ) tw [.ref a_this, .int x1] (wX4_isTime cB cI cZ a_this a_octets v_octets) (fun res : Int32 => some (.int res)) (fun res : Int32 => (wX4_isTime cB cI cZ a_this a_octets v_octets)) res := by
  refine ctr_of RX4 (by decide) rfl (Nat.le_of_ble_eq_true rfl) ?_
  intro p e s m below meth c A C hw ls hl
  have hx := C.1
  have hb := C.2.1
  have hl : lv_has ls 2 [(0, .ref a_this), (1, .int x1)] := hl
  unfold fX4_isTime at h
  refine lv_aload_n (pc := 0) hx hb dX4_isTime_0 rfl (lv_at hl 0 rfl) ?_
  refine lv_iload_n (pc := 1) hx hb dX4_isTime_1 rfl (lv_at hl 1 rfl) ?_
  obtain ⟨r_1, hq_2, h⟩ := ob1_at h
  refine x_callV (pc := 2) (rest := []) (stk := [.int r_1]) (wX4_isTime cB cI cZ a_this a_octets v_octets) C hw (ct_X4_areFigures l D cB cI cZ tw a_this a_octets v_octets x1 r_1 hq_2) cal_X4_areFigures tw_923 (q0 := 0) rfl rfl [0, 1] [] 2 [] rfl rfl rfl rfl rfl rfl rfl rfl rfl rfl rfl (Nat.le_of_ble_eq_true rfl) hl.1 ⟨Nat.le_of_ble_eq_true rfl, Nat.le_of_ble_eq_true rfl⟩ ⟨Nat.zero_le _, Nat.zero_le _⟩ dX4_isTime_2 (fun H locs hw => ?_)
  refine lv_if_eq (pc := 5) (tgt := 56) hx hb dX4_isTime_5 (by decide) (fun hc_3 => ?_) (fun hc_3 => ?_)
  · have h := ift hc_3 h
    refine lv_iconst (pc := 56) (v := 0) hx hb dX4_isTime_56 (by decide) ?_
    exact x_zret (pc := 57) (v := 0) C (Option.some.inj h) rfl rfl hw dX4_isTime_57
  · have h := iff' hc_3 h
    refine lv_aload_n (pc := 8) hx hb dX4_isTime_8 rfl (lv_at hl 0 rfl) ?_
    refine lv_iload_n (pc := 9) hx hb dX4_isTime_9 rfl (lv_at hl 1 rfl) ?_
    refine lv_iconst (pc := 10) (v := 1) hx hb dX4_isTime_10 (by decide) ?_
    refine lv_iadd (pc := 11) hx hb dX4_isTime_11 ?_
    obtain ⟨r_4, hq_5, h⟩ := ob1_at h
    refine x_callV (pc := 12) (rest := []) (stk := [.int r_4]) (wX4_isTime cB cI cZ a_this a_octets v_octets) C hw (ct_X4_areFigures l D cB cI cZ tw a_this a_octets v_octets (x1 + (1 : Int32)) r_4 hq_5) cal_X4_areFigures tw_923 (q0 := 0) rfl rfl [0, 1] [] 2 [] rfl rfl rfl rfl rfl rfl rfl rfl rfl rfl rfl (Nat.le_of_ble_eq_true rfl) hl.1 ⟨Nat.le_of_ble_eq_true rfl, Nat.le_of_ble_eq_true rfl⟩ ⟨Nat.zero_le _, Nat.zero_le _⟩ dX4_isTime_12 (fun H locs hw => ?_)
    refine lv_if_eq (pc := 15) (tgt := 56) hx hb dX4_isTime_15 (by decide) (fun hc_6 => ?_) (fun hc_6 => ?_)
    · have h := ift hc_6 h
      refine lv_iconst (pc := 56) (v := 0) hx hb dX4_isTime_56 (by decide) ?_
      exact x_zret (pc := 57) (v := 0) C (Option.some.inj h) rfl rfl hw dX4_isTime_57
    · have h := iff' hc_6 h
      refine lv_aload_n (pc := 18) hx hb dX4_isTime_18 rfl (lv_at hl 0 rfl) ?_
      refine lv_iload_n (pc := 19) hx hb dX4_isTime_19 rfl (lv_at hl 1 rfl) ?_
      refine lv_iconst (pc := 20) (v := 2) hx hb dX4_isTime_20 (by decide) ?_
      refine lv_iadd (pc := 21) hx hb dX4_isTime_21 ?_
      obtain ⟨r_7, hq_8, h⟩ := ob1_at h
      refine x_callV (pc := 22) (rest := []) (stk := [.int r_7]) (wX4_isTime cB cI cZ a_this a_octets v_octets) C hw (ct_X4_areFigures l D cB cI cZ tw a_this a_octets v_octets (x1 + (2 : Int32)) r_7 hq_8) cal_X4_areFigures tw_923 (q0 := 0) rfl rfl [0, 1] [] 2 [] rfl rfl rfl rfl rfl rfl rfl rfl rfl rfl rfl (Nat.le_of_ble_eq_true rfl) hl.1 ⟨Nat.le_of_ble_eq_true rfl, Nat.le_of_ble_eq_true rfl⟩ ⟨Nat.zero_le _, Nat.zero_le _⟩ dX4_isTime_22 (fun H locs hw => ?_)
      refine lv_if_eq (pc := 25) (tgt := 56) hx hb dX4_isTime_25 (by decide) (fun hc_9 => ?_) (fun hc_9 => ?_)
      · have h := ift hc_9 h
        refine lv_iconst (pc := 56) (v := 0) hx hb dX4_isTime_56 (by decide) ?_
        exact x_zret (pc := 57) (v := 0) C (Option.some.inj h) rfl rfl hw dX4_isTime_57
      · have h := iff' hc_9 h
        refine lv_aload_n (pc := 28) hx hb dX4_isTime_28 rfl (lv_at hl 0 rfl) ?_
        refine lv_iload_n (pc := 29) hx hb dX4_isTime_29 rfl (lv_at hl 1 rfl) ?_
        refine lv_iconst (pc := 30) (v := 1) hx hb dX4_isTime_30 (by decide) ?_
        refine lv_iadd (pc := 31) hx hb dX4_isTime_31 ?_
        obtain ⟨r_10, hq_11, h⟩ := ob1_at h
        refine x_callV (pc := 32) (rest := []) (stk := [.int r_10]) (wX4_isTime cB cI cZ a_this a_octets v_octets) C hw (ct_X4_number l D cB cI cZ tw a_this a_octets v_octets (x1 + (1 : Int32)) r_10 hq_11) cal_X4_number tw_931 (q0 := 0) rfl rfl [0, 1] [] 2 [] rfl rfl rfl rfl rfl rfl rfl rfl rfl rfl rfl (Nat.le_of_ble_eq_true rfl) hl.1 ⟨Nat.le_of_ble_eq_true rfl, Nat.le_of_ble_eq_true rfl⟩ ⟨Nat.zero_le _, Nat.zero_le _⟩ dX4_isTime_32 (fun H locs hw => ?_)
        refine lv_bipush (pc := 35) (v := 60) hx hb dX4_isTime_35 (by decide) ?_
        refine lv_icmp_ge (pc := 37) (tgt := 56) hx hb dX4_isTime_37 (by decide) (fun hc_12 => ?_) (fun hc_12 => ?_)
        · have h := ift hc_12 h
          refine lv_iconst (pc := 56) (v := 0) hx hb dX4_isTime_56 (by decide) ?_
          exact x_zret (pc := 57) (v := 0) C (Option.some.inj h) rfl rfl hw dX4_isTime_57
        · have h := iff' hc_12 h
          refine lv_aload_n (pc := 40) hx hb dX4_isTime_40 rfl (lv_at hl 0 rfl) ?_
          refine lv_iload_n (pc := 41) hx hb dX4_isTime_41 rfl (lv_at hl 1 rfl) ?_
          refine lv_iconst (pc := 42) (v := 2) hx hb dX4_isTime_42 (by decide) ?_
          refine lv_iadd (pc := 43) hx hb dX4_isTime_43 ?_
          obtain ⟨r_13, hq_14, h⟩ := ob1_at h
          refine x_callV (pc := 44) (rest := []) (stk := [.int r_13]) (wX4_isTime cB cI cZ a_this a_octets v_octets) C hw (ct_X4_number l D cB cI cZ tw a_this a_octets v_octets (x1 + (2 : Int32)) r_13 hq_14) cal_X4_number tw_931 (q0 := 0) rfl rfl [0, 1] [] 2 [] rfl rfl rfl rfl rfl rfl rfl rfl rfl rfl rfl (Nat.le_of_ble_eq_true rfl) hl.1 ⟨Nat.le_of_ble_eq_true rfl, Nat.le_of_ble_eq_true rfl⟩ ⟨Nat.zero_le _, Nat.zero_le _⟩ dX4_isTime_44 (fun H locs hw => ?_)
          refine lv_bipush (pc := 47) (v := 75) hx hb dX4_isTime_47 (by decide) ?_
          refine lv_icmp_ge (pc := 49) (tgt := 56) hx hb dX4_isTime_49 (by decide) (fun hc_15 => ?_) (fun hc_15 => ?_)
          · have h := ift hc_15 h
            refine lv_iconst (pc := 56) (v := 0) hx hb dX4_isTime_56 (by decide) ?_
            exact x_zret (pc := 57) (v := 0) C (Option.some.inj h) rfl rfl hw dX4_isTime_57
          · have h := iff' hc_15 h
            refine lv_iconst (pc := 52) (v := 1) hx hb dX4_isTime_52 (by decide) ?_
            refine lv_goto (pc := 53) (tgt := 57) hx hb dX4_isTime_53 (by decide) ?_
            exact x_zret (pc := 57) (v := 1) C (Option.some.inj h) rfl rfl hw dX4_isTime_57
def wX4_isSound (cB cI cZ : ClassId) (a_this : Nat) (a_octets : Nat) (v_octets : Nat → Int32) : va_W := [oX4 a_this a_octets, (a_octets, .inl (cI, 12, .inl v_octets))]
def fX4_isSound (v_octets : Nat → Int32) : Option (Int32) := og (ixb 10 12) (og (ixb 11 12) (nm ((((v_octets (Int32.toNatClampNeg 10)) <<< ((8 : Int32) &&& 31) : Int32) ||| (v_octets (Int32.toNatClampNeg 11))) : Int32) fun x1_3 => ob1 (fX4_areFigures v_octets 1) fun r_4 => jk (fun (t_6 : Int32) => ob1 (fX4_restOf80 v_octets) fun r_8 => if x1_3 = ((r_8 ^^^ (-1 : Int32)) &&& (65535 : Int32)) then og (ixb 0 12) (if ((v_octets (Int32.toNatClampNeg 0)) &&& (15 : Int32)) = (1 : Int32) then if t_6 = 0 then some 0 else some 1 else some 0) else some 0) fun j57_7 => jk (j57_7 0) fun j56_14 => if r_4 = 0 then j56_14 else ob1 (fX4_areFigures v_octets 2) fun r_16 => if r_16 = 0 then j56_14 else ob1 (fX4_isTime v_octets 3) fun r_19 => if r_19 = 0 then j56_14 else ob1 (fX4_isTime v_octets 7) fun r_22 => if r_22 = 0 then j56_14 else j57_7 1))
set_option maxHeartbeats 4000000 in
set_option maxRecDepth 100000 in
theorem ct_X4_isSound (l : Launch) (D : va_G) (cB cI cZ : ClassId) (tw : Nat) (a_this : Nat) (a_octets : Nat) (v_octets : Nat → Int32) (res : Int32) (h : fX4_isSound v_octets = some res) : Ctr l yX4_isSound cX4_isSound 3 (some .boolean) (rmK 2 44) D (tyL cB cI cZ) tw [.ref a_this] (wX4_isSound cB cI cZ a_this a_octets v_octets) (fun res : Int32 => some (.int res)) (fun res : Int32 => (wX4_isSound cB cI cZ a_this a_octets v_octets)) res := by
  refine ctr_of RX4 (by decide) rfl (Nat.le_of_ble_eq_true rfl) ?_
  intro p e s m below meth c A C hw ls hl
  have hx := C.1
  have hb := C.2.1
  have hl : lv_has ls 3 [(0, .ref a_this)] := hl
  unfold fX4_isSound at h
  refine lv_aload_n (pc := 0) hx hb dX4_isSound_0 rfl (lv_at hl 0 rfl) ?_
  refine gf_X4_7 (pc := 1) C hw 0 rfl rfl dX4_isSound_1 ?_
  refine lv_bipush (pc := 4) (v := 10) hx hb dX4_isSound_4 (by decide) ?_
  obtain ⟨hi_1, h⟩ := og_at h
  refine x_iald (pc := 6) C hw 1 rfl hi_1 dX4_isSound_6 ?_
  refine lv_bipush (pc := 7) (v := 8) hx hb dX4_isSound_7 (by decide) ?_
  refine lv_ishl (pc := 9) hx hb dX4_isSound_9 ?_
  refine lv_aload_n (pc := 10) hx hb dX4_isSound_10 rfl (lv_at hl 0 rfl) ?_
  refine gf_X4_7 (pc := 11) C hw 0 rfl rfl dX4_isSound_11 ?_
  refine lv_bipush (pc := 14) (v := 11) hx hb dX4_isSound_14 (by decide) ?_
  obtain ⟨hi_2, h⟩ := og_at h
  refine x_iald (pc := 16) C hw 1 rfl hi_2 dX4_isSound_16 ?_
  refine lv_ior (pc := 17) hx hb dX4_isSound_17 ?_
  refine lv_topi (pc := 18) (fun x1_3 ex1_3 => ?_)
  have h := nm_at ex1_3 h
  refine lv_istore_n (pc := 18) (lv' := [(1, .int x1_3), (0, .ref a_this)]) hx hb dX4_isSound_18 rfl hl (by decide) rfl (fun ls hl => ?_)
  refine lv_aload_n (pc := 19) hx hb dX4_isSound_19 rfl (lv_at hl 1 rfl) ?_
  refine lv_iconst (pc := 20) (v := 1) hx hb dX4_isSound_20 (by decide) ?_
  obtain ⟨r_4, hq_5, h⟩ := ob1_at h
  refine x_callV (pc := 21) (rest := []) (stk := [.int r_4]) (wX4_isSound cB cI cZ a_this a_octets v_octets) C hw (ct_X4_areFigures l D cB cI cZ tw a_this a_octets v_octets 1 r_4 hq_5) cal_X4_areFigures tw_923 (q0 := 0) rfl rfl [0, 1] [] 2 [] rfl rfl rfl rfl rfl rfl rfl rfl rfl rfl rfl (Nat.le_of_ble_eq_true rfl) hl.1 ⟨Nat.le_of_ble_eq_true rfl, Nat.le_of_ble_eq_true rfl⟩ ⟨Nat.zero_le _, Nat.zero_le _⟩ dX4_isSound_21 (fun H locs hw => ?_)
  obtain ⟨j57_7, ej57_7, h⟩ := jk_at h
  have J57_7 : ∀ (t_6 : Int32) (ls : Array Slot) (H : Heap) (locs : List Loc), lv_has ls 3 [(1, .int x1_3), (0, .ref a_this)] → Wd D A s (wX4_isSound cB cI cZ a_this a_octets v_octets) H locs → j57_7 t_6 = some res → W p l e (rmK 2 44) s m ([.ref a_this] : List Value).toArray below meth c H locs 0 0 (MQ below (QG D (tyL cB cI cZ) A (fun res : Int32 => some (.int res)) (fun res : Int32 => (wX4_isSound cB cI cZ a_this a_octets v_octets)) res) ([.ref a_this] : List Value).toArray s 0 0 A) (F0 m 57 ls [.int t_6]) := by
    intro t_6 ls H locs hl hw h
    have h := k1_at ej57_7 h
    refine lv_istore_n (pc := 57) (lv' := [(2, .int t_6), (1, .int x1_3), (0, .ref a_this)]) hx hb dX4_isSound_57 rfl hl (by decide) rfl (fun ls hl => ?_)
    refine lv_iload_n (pc := 58) hx hb dX4_isSound_58 rfl (lv_at hl 1 rfl) ?_
    refine lv_aload_n (pc := 59) hx hb dX4_isSound_59 rfl (lv_at hl 2 rfl) ?_
    obtain ⟨r_8, hq_9, h⟩ := ob1_at h
    refine x_callV (pc := 60) (rest := [.int x1_3]) (stk := [.int r_8, .int x1_3]) (wX4_isSound cB cI cZ a_this a_octets v_octets) C hw (ct_X4_restOf80 l D cB cI cZ tw a_this a_octets v_octets r_8 hq_9) cal_X4_restOf80 tw_539 (q0 := 0) rfl rfl [0, 1] [] 2 [] rfl rfl rfl rfl rfl rfl rfl rfl rfl rfl rfl (Nat.le_of_ble_eq_true rfl) hl.1 ⟨Nat.le_of_ble_eq_true rfl, Nat.le_of_ble_eq_true rfl⟩ ⟨Nat.zero_le _, Nat.zero_le _⟩ dX4_isSound_60 (fun H locs hw => ?_)
    refine lv_iconst (pc := 63) (v := (-1)) hx hb dX4_isSound_63 (by decide) ?_
    refine lv_ixor (pc := 64) hx hb dX4_isSound_64 ?_
    refine lv_ldc (pc := 65) (own := RX4) (v := 65535) hx hb C.2.2.2.1 (C.2.2.2.2.1 _ tw_547) dX4_isSound_65 ?_
    refine lv_iand (pc := 67) hx hb dX4_isSound_67 ?_
    refine lv_icmp_ne (pc := 68) (tgt := 92) hx hb dX4_isSound_68 (by decide) (fun hc_10 => ?_) (fun hc_10 => ?_)
    · have h := iff' hc_10 h
      refine lv_iconst (pc := 92) (v := 0) hx hb dX4_isSound_92 (by decide) ?_
      exact x_zret (pc := 93) (v := 0) C (Option.some.inj h) rfl rfl hw dX4_isSound_93
    · have h := ift hc_10 h
      refine lv_aload_n (pc := 71) hx hb dX4_isSound_71 rfl (lv_at hl 2 rfl) ?_
      refine gf_X4_7 (pc := 72) C hw 0 rfl rfl dX4_isSound_72 ?_
      refine lv_iconst (pc := 75) (v := 0) hx hb dX4_isSound_75 (by decide) ?_
      obtain ⟨hi_11, h⟩ := og_at h
      refine x_iald (pc := 76) C hw 1 rfl hi_11 dX4_isSound_76 ?_
      refine lv_bipush (pc := 77) (v := 15) hx hb dX4_isSound_77 (by decide) ?_
      refine lv_iand (pc := 79) hx hb dX4_isSound_79 ?_
      refine lv_iconst (pc := 80) (v := 1) hx hb dX4_isSound_80 (by decide) ?_
      refine lv_icmp_ne (pc := 81) (tgt := 92) hx hb dX4_isSound_81 (by decide) (fun hc_12 => ?_) (fun hc_12 => ?_)
      · have h := iff' hc_12 h
        refine lv_iconst (pc := 92) (v := 0) hx hb dX4_isSound_92 (by decide) ?_
        exact x_zret (pc := 93) (v := 0) C (Option.some.inj h) rfl rfl hw dX4_isSound_93
      · have h := ift hc_12 h
        refine lv_iload_n (pc := 84) hx hb dX4_isSound_84 rfl (lv_at hl 0 rfl) ?_
        refine lv_if_eq (pc := 85) (tgt := 92) hx hb dX4_isSound_85 (by decide) (fun hc_13 => ?_) (fun hc_13 => ?_)
        · have h := ift hc_13 h
          refine lv_iconst (pc := 92) (v := 0) hx hb dX4_isSound_92 (by decide) ?_
          exact x_zret (pc := 93) (v := 0) C (Option.some.inj h) rfl rfl hw dX4_isSound_93
        · have h := iff' hc_13 h
          refine lv_iconst (pc := 88) (v := 1) hx hb dX4_isSound_88 (by decide) ?_
          refine lv_goto (pc := 89) (tgt := 93) hx hb dX4_isSound_89 (by decide) ?_
          exact x_zret (pc := 93) (v := 1) C (Option.some.inj h) rfl rfl hw dX4_isSound_93
  obtain ⟨j56_14, ej56_14, h⟩ := jk_at h
  have J56_14 : ∀  (ls : Array Slot) (H : Heap) (locs : List Loc), lv_has ls 3 [(1, .int x1_3), (0, .ref a_this)] → Wd D A s (wX4_isSound cB cI cZ a_this a_octets v_octets) H locs → j56_14 = some res → W p l e (rmK 2 44) s m ([.ref a_this] : List Value).toArray below meth c H locs 0 0 (MQ below (QG D (tyL cB cI cZ) A (fun res : Int32 => some (.int res)) (fun res : Int32 => (wX4_isSound cB cI cZ a_this a_octets v_octets)) res) ([.ref a_this] : List Value).toArray s 0 0 A) (F0 m 56 ls []) := by
    intro  ls H locs hl hw h
    have h := k0_at ej56_14 h
    refine lv_iconst (pc := 56) (v := 0) hx hb dX4_isSound_56 (by decide) ?_
    exact J57_7 0 ls _ _ (lv_sub hl [0, 1] rfl) hw h
  refine lv_if_eq (pc := 24) (tgt := 56) hx hb dX4_isSound_24 (by decide) (fun hc_15 => ?_) (fun hc_15 => ?_)
  · have h := ift hc_15 h
    exact J56_14  ls _ _ (lv_sub hl [0, 1] rfl) hw h
  · have h := iff' hc_15 h
    refine lv_aload_n (pc := 27) hx hb dX4_isSound_27 rfl (lv_at hl 1 rfl) ?_
    refine lv_iconst (pc := 28) (v := 2) hx hb dX4_isSound_28 (by decide) ?_
    obtain ⟨r_16, hq_17, h⟩ := ob1_at h
    refine x_callV (pc := 29) (rest := []) (stk := [.int r_16]) (wX4_isSound cB cI cZ a_this a_octets v_octets) C hw (ct_X4_areFigures l D cB cI cZ tw a_this a_octets v_octets 2 r_16 hq_17) cal_X4_areFigures tw_923 (q0 := 0) rfl rfl [0, 1] [] 2 [] rfl rfl rfl rfl rfl rfl rfl rfl rfl rfl rfl (Nat.le_of_ble_eq_true rfl) hl.1 ⟨Nat.le_of_ble_eq_true rfl, Nat.le_of_ble_eq_true rfl⟩ ⟨Nat.zero_le _, Nat.zero_le _⟩ dX4_isSound_29 (fun H locs hw => ?_)
    refine lv_if_eq (pc := 32) (tgt := 56) hx hb dX4_isSound_32 (by decide) (fun hc_18 => ?_) (fun hc_18 => ?_)
    · have h := ift hc_18 h
      exact J56_14  ls _ _ (lv_sub hl [0, 1] rfl) hw h
    · have h := iff' hc_18 h
      refine lv_aload_n (pc := 35) hx hb dX4_isSound_35 rfl (lv_at hl 1 rfl) ?_
      refine lv_iconst (pc := 36) (v := 3) hx hb dX4_isSound_36 (by decide) ?_
      obtain ⟨r_19, hq_20, h⟩ := ob1_at h
      refine x_callV (pc := 37) (rest := []) (stk := [.int r_19]) (wX4_isSound cB cI cZ a_this a_octets v_octets) C hw (ct_X4_isTime l D cB cI cZ tw a_this a_octets v_octets 3 r_19 hq_20) cal_X4_isTime tw_927 (q0 := 0) rfl rfl [0, 1] [] 2 [] rfl rfl rfl rfl rfl rfl rfl rfl rfl rfl rfl (Nat.le_of_ble_eq_true rfl) hl.1 ⟨Nat.le_of_ble_eq_true rfl, Nat.le_of_ble_eq_true rfl⟩ ⟨Nat.zero_le _, Nat.zero_le _⟩ dX4_isSound_37 (fun H locs hw => ?_)
      refine lv_if_eq (pc := 40) (tgt := 56) hx hb dX4_isSound_40 (by decide) (fun hc_21 => ?_) (fun hc_21 => ?_)
      · have h := ift hc_21 h
        exact J56_14  ls _ _ (lv_sub hl [0, 1] rfl) hw h
      · have h := iff' hc_21 h
        refine lv_aload_n (pc := 43) hx hb dX4_isSound_43 rfl (lv_at hl 1 rfl) ?_
        refine lv_bipush (pc := 44) (v := 7) hx hb dX4_isSound_44 (by decide) ?_
        obtain ⟨r_22, hq_23, h⟩ := ob1_at h
        refine x_callV (pc := 46) (rest := []) (stk := [.int r_22]) (wX4_isSound cB cI cZ a_this a_octets v_octets) C hw (ct_X4_isTime l D cB cI cZ tw a_this a_octets v_octets 7 r_22 hq_23) cal_X4_isTime tw_927 (q0 := 0) rfl rfl [0, 1] [] 2 [] rfl rfl rfl rfl rfl rfl rfl rfl rfl rfl rfl (Nat.le_of_ble_eq_true rfl) hl.1 ⟨Nat.le_of_ble_eq_true rfl, Nat.le_of_ble_eq_true rfl⟩ ⟨Nat.zero_le _, Nat.zero_le _⟩ dX4_isSound_46 (fun H locs hw => ?_)
        refine lv_if_eq (pc := 49) (tgt := 56) hx hb dX4_isSound_49 (by decide) (fun hc_24 => ?_) (fun hc_24 => ?_)
        · have h := ift hc_24 h
          exact J56_14  ls _ _ (lv_sub hl [0, 1] rfl) hw h
        · have h := iff' hc_24 h
          refine lv_iconst (pc := 52) (v := 1) hx hb dX4_isSound_52 (by decide) ?_
          refine lv_goto (pc := 53) (tgt := 57) hx hb dX4_isSound_53 (by decide) ?_
          exact J57_7 1 ls _ _ (lv_sub hl [0, 1] rfl) hw h
def wX4_timeOf (cB cI cZ : ClassId) (a_this : Nat) (a_octets : Nat) (v_octets : Nat → Int32) : va_W := [oX4 a_this a_octets, (a_octets, .inl (cI, 12, .inl v_octets))]
def fX4_timeOf (v_octets : Nat → Int32) (x1 : Int32) : Option (Int32) := ob1 (fX4_number v_octets x1) fun r_1 => ob1 (fX4_number v_octets (x1 + (1 : Int32))) fun r_3 => ob1 (fX4_number v_octets (x1 + (2 : Int32))) fun r_5 => some (((r_1 * (4500 : Int32)) + (r_3 * (75 : Int32))) + r_5)
set_option maxHeartbeats 4000000 in
set_option maxRecDepth 100000 in
theorem ct_X4_timeOf (l : Launch) (D : va_G) (cB cI cZ : ClassId) (tw : Nat) (a_this : Nat) (a_octets : Nat) (v_octets : Nat → Int32) (x1 : Int32) (res : Int32) (h : fX4_timeOf v_octets x1 = some res) : Ctr l yX4_timeOf cX4_timeOf 2 (some .int) (rmK 1 21) D (tyL cB cI cZ) tw [.ref a_this, .int x1] (wX4_timeOf cB cI cZ a_this a_octets v_octets) (fun res : Int32 => some (.int res)) (fun res : Int32 => (wX4_timeOf cB cI cZ a_this a_octets v_octets)) res := by
  refine ctr_of RX4 (by decide) rfl (Nat.le_of_ble_eq_true rfl) ?_
  intro p e s m below meth c A C hw ls hl
  have hx := C.1
  have hb := C.2.1
  have hl : lv_has ls 2 [(0, .ref a_this), (1, .int x1)] := hl
  unfold fX4_timeOf at h
  refine lv_aload_n (pc := 0) hx hb dX4_timeOf_0 rfl (lv_at hl 0 rfl) ?_
  refine lv_iload_n (pc := 1) hx hb dX4_timeOf_1 rfl (lv_at hl 1 rfl) ?_
  obtain ⟨r_1, hq_2, h⟩ := ob1_at h
  refine x_callV (pc := 2) (rest := []) (stk := [.int r_1]) (wX4_timeOf cB cI cZ a_this a_octets v_octets) C hw (ct_X4_number l D cB cI cZ tw a_this a_octets v_octets x1 r_1 hq_2) cal_X4_number tw_931 (q0 := 0) rfl rfl [0, 1] [] 2 [] rfl rfl rfl rfl rfl rfl rfl rfl rfl rfl rfl (Nat.le_of_ble_eq_true rfl) hl.1 ⟨Nat.le_of_ble_eq_true rfl, Nat.le_of_ble_eq_true rfl⟩ ⟨Nat.zero_le _, Nat.zero_le _⟩ dX4_timeOf_2 (fun H locs hw => ?_)
  refine lv_sipush (pc := 5) (v := 4500) hx hb dX4_timeOf_5 (by decide) ?_
  refine lv_imul (pc := 8) hx hb dX4_timeOf_8 ?_
  refine lv_aload_n (pc := 9) hx hb dX4_timeOf_9 rfl (lv_at hl 0 rfl) ?_
  refine lv_iload_n (pc := 10) hx hb dX4_timeOf_10 rfl (lv_at hl 1 rfl) ?_
  refine lv_iconst (pc := 11) (v := 1) hx hb dX4_timeOf_11 (by decide) ?_
  refine lv_iadd (pc := 12) hx hb dX4_timeOf_12 ?_
  obtain ⟨r_3, hq_4, h⟩ := ob1_at h
  refine x_callV (pc := 13) (rest := [.int (r_1 * (4500 : Int32))]) (stk := [.int r_3, .int (r_1 * (4500 : Int32))]) (wX4_timeOf cB cI cZ a_this a_octets v_octets) C hw (ct_X4_number l D cB cI cZ tw a_this a_octets v_octets (x1 + (1 : Int32)) r_3 hq_4) cal_X4_number tw_931 (q0 := 0) rfl rfl [0, 1] [] 2 [] rfl rfl rfl rfl rfl rfl rfl rfl rfl rfl rfl (Nat.le_of_ble_eq_true rfl) hl.1 ⟨Nat.le_of_ble_eq_true rfl, Nat.le_of_ble_eq_true rfl⟩ ⟨Nat.zero_le _, Nat.zero_le _⟩ dX4_timeOf_13 (fun H locs hw => ?_)
  refine lv_bipush (pc := 16) (v := 75) hx hb dX4_timeOf_16 (by decide) ?_
  refine lv_imul (pc := 18) hx hb dX4_timeOf_18 ?_
  refine lv_iadd (pc := 19) hx hb dX4_timeOf_19 ?_
  refine lv_aload_n (pc := 20) hx hb dX4_timeOf_20 rfl (lv_at hl 0 rfl) ?_
  refine lv_iload_n (pc := 21) hx hb dX4_timeOf_21 rfl (lv_at hl 1 rfl) ?_
  refine lv_iconst (pc := 22) (v := 2) hx hb dX4_timeOf_22 (by decide) ?_
  refine lv_iadd (pc := 23) hx hb dX4_timeOf_23 ?_
  obtain ⟨r_5, hq_6, h⟩ := ob1_at h
  refine x_callV (pc := 24) (rest := [.int ((r_1 * (4500 : Int32)) + (r_3 * (75 : Int32)))]) (stk := [.int r_5, .int ((r_1 * (4500 : Int32)) + (r_3 * (75 : Int32)))]) (wX4_timeOf cB cI cZ a_this a_octets v_octets) C hw (ct_X4_number l D cB cI cZ tw a_this a_octets v_octets (x1 + (2 : Int32)) r_5 hq_6) cal_X4_number tw_931 (q0 := 0) rfl rfl [0, 1] [] 2 [] rfl rfl rfl rfl rfl rfl rfl rfl rfl rfl rfl (Nat.le_of_ble_eq_true rfl) hl.1 ⟨Nat.le_of_ble_eq_true rfl, Nat.le_of_ble_eq_true rfl⟩ ⟨Nat.zero_le _, Nat.zero_le _⟩ dX4_timeOf_24 (fun H locs hw => ?_)
  refine lv_iadd (pc := 27) hx hb dX4_timeOf_27 ?_
  exact x_iret (pc := 28) (v := (((r_1 * (4500 : Int32)) + (r_3 * (75 : Int32))) + r_5)) C (Option.some.inj h) rfl hw dX4_timeOf_28
def wX4_control (cB cI cZ : ClassId) (a_this : Nat) (a_octets : Nat) (v_octets : Nat → Int32) : va_W := [oX4 a_this a_octets, (a_octets, .inl (cI, 12, .inl v_octets))]
def fX4_control (v_octets : Nat → Int32) : Option (Int32) := og (ixb 0 12) (some (UInt32.toInt32 (Int32.toUInt32 (v_octets (Int32.toNatClampNeg 0)) >>> (Int32.toUInt32 4 &&& Int32.toUInt32 31))))
set_option maxHeartbeats 4000000 in
set_option maxRecDepth 100000 in
theorem ct_X4_control (l : Launch) (D : va_G) (cB cI cZ : ClassId) (tw : Nat) (a_this : Nat) (a_octets : Nat) (v_octets : Nat → Int32) (res : Int32) (h : fX4_control v_octets = some res) : Ctr l yX4_control cX4_control 1 (some .int) (rmK 0 0) D (tyL cB cI cZ) tw [.ref a_this] (wX4_control cB cI cZ a_this a_octets v_octets) (fun res : Int32 => some (.int res)) (fun res : Int32 => (wX4_control cB cI cZ a_this a_octets v_octets)) res := by
  refine ctr_of RX4 (by decide) rfl (Nat.le_of_ble_eq_true rfl) ?_
  intro p e s m below meth c A C hw ls hl
  have hx := C.1
  have hb := C.2.1
  have hl : lv_has ls 1 [(0, .ref a_this)] := hl
  unfold fX4_control at h
  refine lv_aload_n (pc := 0) hx hb dX4_control_0 rfl (lv_at hl 0 rfl) ?_
  refine gf_X4_7 (pc := 1) C hw 0 rfl rfl dX4_control_1 ?_
  refine lv_iconst (pc := 4) (v := 0) hx hb dX4_control_4 (by decide) ?_
  obtain ⟨hi_1, h⟩ := og_at h
  refine x_iald (pc := 5) C hw 1 rfl hi_1 dX4_control_5 ?_
  refine lv_iconst (pc := 6) (v := 4) hx hb dX4_control_6 (by decide) ?_
  refine lv_iushr (pc := 7) hx hb dX4_control_7 rfl ?_
  exact x_iret (pc := 8) (v := (UInt32.toInt32 (Int32.toUInt32 (v_octets (Int32.toNatClampNeg 0)) >>> (Int32.toUInt32 4 &&& Int32.toUInt32 31)))) C (Option.some.inj h) rfl hw dX4_control_8
def wX4_track (cB cI cZ : ClassId) (a_this : Nat) (a_octets : Nat) (v_octets : Nat → Int32) : va_W := [oX4 a_this a_octets, (a_octets, .inl (cI, 12, .inl v_octets))]
def fX4_track (v_octets : Nat → Int32) : Option (Int32) := ob1 (fX4_number v_octets 1) fun r_1 => some r_1
set_option maxHeartbeats 4000000 in
set_option maxRecDepth 100000 in
theorem ct_X4_track (l : Launch) (D : va_G) (cB cI cZ : ClassId) (tw : Nat) (a_this : Nat) (a_octets : Nat) (v_octets : Nat → Int32) (res : Int32) (h : fX4_track v_octets = some res) : Ctr l yX4_track cX4_track 1 (some .int) (rmK 1 21) D (tyL cB cI cZ) tw [.ref a_this] (wX4_track cB cI cZ a_this a_octets v_octets) (fun res : Int32 => some (.int res)) (fun res : Int32 => (wX4_track cB cI cZ a_this a_octets v_octets)) res := by
  refine ctr_of RX4 (by decide) rfl (Nat.le_of_ble_eq_true rfl) ?_
  intro p e s m below meth c A C hw ls hl
  have hx := C.1
  have hb := C.2.1
  have hl : lv_has ls 1 [(0, .ref a_this)] := hl
  unfold fX4_track at h
  refine lv_aload_n (pc := 0) hx hb dX4_track_0 rfl (lv_at hl 0 rfl) ?_
  refine lv_iconst (pc := 1) (v := 1) hx hb dX4_track_1 (by decide) ?_
  obtain ⟨r_1, hq_2, h⟩ := ob1_at h
  refine x_callV (pc := 2) (rest := []) (stk := [.int r_1]) (wX4_track cB cI cZ a_this a_octets v_octets) C hw (ct_X4_number l D cB cI cZ tw a_this a_octets v_octets 1 r_1 hq_2) cal_X4_number tw_931 (q0 := 0) rfl rfl [0, 1] [] 2 [] rfl rfl rfl rfl rfl rfl rfl rfl rfl rfl rfl (Nat.le_of_ble_eq_true rfl) hl.1 ⟨Nat.le_of_ble_eq_true rfl, Nat.le_of_ble_eq_true rfl⟩ ⟨Nat.zero_le _, Nat.zero_le _⟩ dX4_track_2 (fun H locs hw => ?_)
  exact x_iret (pc := 5) (v := r_1) C (Option.some.inj h) rfl hw dX4_track_5
def wX4_index (cB cI cZ : ClassId) (a_this : Nat) (a_octets : Nat) (v_octets : Nat → Int32) : va_W := [oX4 a_this a_octets, (a_octets, .inl (cI, 12, .inl v_octets))]
def fX4_index (v_octets : Nat → Int32) : Option (Int32) := ob1 (fX4_number v_octets 2) fun r_1 => some r_1
set_option maxHeartbeats 4000000 in
set_option maxRecDepth 100000 in
theorem ct_X4_index (l : Launch) (D : va_G) (cB cI cZ : ClassId) (tw : Nat) (a_this : Nat) (a_octets : Nat) (v_octets : Nat → Int32) (res : Int32) (h : fX4_index v_octets = some res) : Ctr l yX4_index cX4_index 1 (some .int) (rmK 1 21) D (tyL cB cI cZ) tw [.ref a_this] (wX4_index cB cI cZ a_this a_octets v_octets) (fun res : Int32 => some (.int res)) (fun res : Int32 => (wX4_index cB cI cZ a_this a_octets v_octets)) res := by
  refine ctr_of RX4 (by decide) rfl (Nat.le_of_ble_eq_true rfl) ?_
  intro p e s m below meth c A C hw ls hl
  have hx := C.1
  have hb := C.2.1
  have hl : lv_has ls 1 [(0, .ref a_this)] := hl
  unfold fX4_index at h
  refine lv_aload_n (pc := 0) hx hb dX4_index_0 rfl (lv_at hl 0 rfl) ?_
  refine lv_iconst (pc := 1) (v := 2) hx hb dX4_index_1 (by decide) ?_
  obtain ⟨r_1, hq_2, h⟩ := ob1_at h
  refine x_callV (pc := 2) (rest := []) (stk := [.int r_1]) (wX4_index cB cI cZ a_this a_octets v_octets) C hw (ct_X4_number l D cB cI cZ tw a_this a_octets v_octets 2 r_1 hq_2) cal_X4_number tw_931 (q0 := 0) rfl rfl [0, 1] [] 2 [] rfl rfl rfl rfl rfl rfl rfl rfl rfl rfl rfl (Nat.le_of_ble_eq_true rfl) hl.1 ⟨Nat.le_of_ble_eq_true rfl, Nat.le_of_ble_eq_true rfl⟩ ⟨Nat.zero_le _, Nat.zero_le _⟩ dX4_index_2 (fun H locs hw => ?_)
  exact x_iret (pc := 5) (v := r_1) C (Option.some.inj h) rfl hw dX4_index_5
def wX4_time (cB cI cZ : ClassId) (a_this : Nat) (a_octets : Nat) (v_octets : Nat → Int32) : va_W := [oX4 a_this a_octets, (a_octets, .inl (cI, 12, .inl v_octets))]
def fX4_time (v_octets : Nat → Int32) : Option (Int32) := ob1 (fX4_timeOf v_octets 3) fun r_1 => some r_1
set_option maxHeartbeats 4000000 in
set_option maxRecDepth 100000 in
theorem ct_X4_time (l : Launch) (D : va_G) (cB cI cZ : ClassId) (tw : Nat) (a_this : Nat) (a_octets : Nat) (v_octets : Nat → Int32) (res : Int32) (h : fX4_time v_octets = some res) : Ctr l yX4_time cX4_time 1 (some .int) (rmK 2 42) D (tyL cB cI cZ) tw [.ref a_this] (wX4_time cB cI cZ a_this a_octets v_octets) (fun res : Int32 => some (.int res)) (fun res : Int32 => (wX4_time cB cI cZ a_this a_octets v_octets)) res := by
  refine ctr_of RX4 (by decide) rfl (Nat.le_of_ble_eq_true rfl) ?_
  intro p e s m below meth c A C hw ls hl
  have hx := C.1
  have hb := C.2.1
  have hl : lv_has ls 1 [(0, .ref a_this)] := hl
  unfold fX4_time at h
  refine lv_aload_n (pc := 0) hx hb dX4_time_0 rfl (lv_at hl 0 rfl) ?_
  refine lv_iconst (pc := 1) (v := 3) hx hb dX4_time_1 (by decide) ?_
  obtain ⟨r_1, hq_2, h⟩ := ob1_at h
  refine x_callV (pc := 2) (rest := []) (stk := [.int r_1]) (wX4_time cB cI cZ a_this a_octets v_octets) C hw (ct_X4_timeOf l D cB cI cZ tw a_this a_octets v_octets 3 r_1 hq_2) cal_X4_timeOf tw_951 (q0 := 0) rfl rfl [0, 1] [] 2 [] rfl rfl rfl rfl rfl rfl rfl rfl rfl rfl rfl (Nat.le_of_ble_eq_true rfl) hl.1 ⟨Nat.le_of_ble_eq_true rfl, Nat.le_of_ble_eq_true rfl⟩ ⟨Nat.zero_le _, Nat.zero_le _⟩ dX4_time_2 (fun H locs hw => ?_)
  exact x_iret (pc := 5) (v := r_1) C (Option.some.inj h) rfl hw dX4_time_5
def wX4_place (cB cI cZ : ClassId) (a_this : Nat) (a_octets : Nat) (v_octets : Nat → Int32) : va_W := [oX4 a_this a_octets, (a_octets, .inl (cI, 12, .inl v_octets))]
def fX4_place (v_octets : Nat → Int32) : Option (Int32) := ob1 (fX4_timeOf v_octets 7) fun r_1 => some r_1
set_option maxHeartbeats 4000000 in
set_option maxRecDepth 100000 in
theorem ct_X4_place (l : Launch) (D : va_G) (cB cI cZ : ClassId) (tw : Nat) (a_this : Nat) (a_octets : Nat) (v_octets : Nat → Int32) (res : Int32) (h : fX4_place v_octets = some res) : Ctr l yX4_place cX4_place 1 (some .int) (rmK 2 42) D (tyL cB cI cZ) tw [.ref a_this] (wX4_place cB cI cZ a_this a_octets v_octets) (fun res : Int32 => some (.int res)) (fun res : Int32 => (wX4_place cB cI cZ a_this a_octets v_octets)) res := by
  refine ctr_of RX4 (by decide) rfl (Nat.le_of_ble_eq_true rfl) ?_
  intro p e s m below meth c A C hw ls hl
  have hx := C.1
  have hb := C.2.1
  have hl : lv_has ls 1 [(0, .ref a_this)] := hl
  unfold fX4_place at h
  refine lv_aload_n (pc := 0) hx hb dX4_place_0 rfl (lv_at hl 0 rfl) ?_
  refine lv_bipush (pc := 1) (v := 7) hx hb dX4_place_1 (by decide) ?_
  obtain ⟨r_1, hq_2, h⟩ := ob1_at h
  refine x_callV (pc := 3) (rest := []) (stk := [.int r_1]) (wX4_place cB cI cZ a_this a_octets v_octets) C hw (ct_X4_timeOf l D cB cI cZ tw a_this a_octets v_octets 7 r_1 hq_2) cal_X4_timeOf tw_951 (q0 := 0) rfl rfl [0, 1] [] 2 [] rfl rfl rfl rfl rfl rfl rfl rfl rfl rfl rfl (Nat.le_of_ble_eq_true rfl) hl.1 ⟨Nat.le_of_ble_eq_true rfl, Nat.le_of_ble_eq_true rfl⟩ ⟨Nat.zero_le _, Nat.zero_le _⟩ dX4_place_3 (fun H locs hw => ?_)
  exact x_iret (pc := 6) (v := r_1) C (Option.some.inj h) rfl hw dX4_place_6
