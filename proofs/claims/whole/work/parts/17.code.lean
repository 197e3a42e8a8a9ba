def wX0_allPlaces (cB cI cZ : ClassId) (a_this : Nat) (a_field : Nat) (a_sums : Nat) (a_spots : Nat) (a_locator : Nat) (a_rest : Nat) (v_size : Int32) (v_firstCheck : Int32) (v_spotted : Int32) : va_W := [oX0 a_this a_field v_size v_firstCheck a_sums a_spots v_spotted a_locator a_rest]
def fX0_allPlaces (v_size : Int32) : Int32 := if v_size < (32 : Int32) then (((1 : Int32) <<< (v_size &&& 31) : Int32) - (1 : Int32)) else (-1)
set_option maxHeartbeats 4000000 in
set_option maxRecDepth 100000 in
theorem ct_X0_allPlaces (l : Launch) (D : va_G) (cB cI cZ : ClassId) (tw : Nat) (a_this : Nat) (a_field : Nat) (a_sums : Nat) (a_spots : Nat) (a_locator : Nat) (a_rest : Nat) (v_size : Int32) (v_firstCheck : Int32) (v_spotted : Int32) (res : Int32) (h : fX0_allPlaces v_size = res) : Ctr l yX0_allPlaces cX0_allPlaces 1 (some .int) (rmK 0 0) D (tyL cB cI cZ) tw [.ref a_this] (wX0_allPlaces cB cI cZ a_this a_field a_sums a_spots a_locator a_rest v_size v_firstCheck v_spotted) (fun res : Int32 => some (.int res)) (fun res : Int32 => (wX0_allPlaces cB cI cZ a_this a_field a_sums a_spots a_locator a_rest v_size v_firstCheck v_spotted)) res := by
  refine ctr_of RX0 (by decide) rfl (Nat.le_of_ble_eq_true rfl) ?_
  intro p e s m below meth c A C hw ls hl
  have hx := C.1
  have hb := C.2.1
  have hl : lv_has ls 1 [(0, .ref a_this)] := hl
  unfold fX0_allPlaces at h
  refine lv_aload_n (pc := 0) hx hb dX0_allPlaces_0 rfl (lv_at hl 0 rfl) ?_
  refine gf_X0_28 (pc := 1) C hw 0 rfl rfl dX0_allPlaces_1 ?_
  refine lv_bipush (pc := 4) (v := 32) hx hb dX0_allPlaces_4 (by decide) ?_
  refine lv_icmp_lt (pc := 6) (tgt := 13) hx hb dX0_allPlaces_6 (by decide) (fun hc_1 => ?_) (fun hc_1 => ?_)
  · have h := ift hc_1 h
    refine lv_iconst (pc := 13) (v := 1) hx hb dX0_allPlaces_13 (by decide) ?_
    refine lv_aload_n (pc := 14) hx hb dX0_allPlaces_14 rfl (lv_at hl 0 rfl) ?_
    refine gf_X0_28 (pc := 15) C hw 0 rfl rfl dX0_allPlaces_15 ?_
    refine lv_ishl (pc := 18) hx hb dX0_allPlaces_18 ?_
    refine lv_iconst (pc := 19) (v := 1) hx hb dX0_allPlaces_19 (by decide) ?_
    refine lv_isub (pc := 20) hx hb dX0_allPlaces_20 ?_
    exact x_iret (pc := 21) (v := (((1 : Int32) <<< (v_size &&& 31) : Int32) - (1 : Int32))) C h rfl hw dX0_allPlaces_21
  · have h := iff' hc_1 h
    refine lv_iconst (pc := 9) (v := (-1)) hx hb dX0_allPlaces_9 (by decide) ?_
    refine lv_goto (pc := 10) (tgt := 21) hx hb dX0_allPlaces_10 (by decide) ?_
    exact x_iret (pc := 21) (v := (-1)) C h rfl hw dX0_allPlaces_21
def wX0_fits (cB cI cZ : ClassId) (a_this : Nat) (a_field : Nat) (a_sums : Nat) (a_spots : Nat) (a_locator : Nat) (a_rest : Nat) (a_arg1 : Nat) (n_arg1 : Nat) (v_size : Int32) (v_firstCheck : Int32) (v_spotted : Int32) (v_arg1 : Nat → Int32) : va_W := [oX0 a_this a_field v_size v_firstCheck a_sums a_spots v_spotted a_locator a_rest, (a_arg1, .inl (cB, n_arg1, .inl v_arg1))]
def fX0_fits (v_size : Int32) (n_arg1 : Nat) (x2 : Int32) : Int32 := if x2 < 0 then 0 else if ((Int32.ofNat n_arg1) - v_size) < x2 then 0 else 1
set_option maxHeartbeats 4000000 in
set_option maxRecDepth 100000 in
theorem ct_X0_fits (l : Launch) (D : va_G) (cB cI cZ : ClassId) (tw : Nat) (a_this : Nat) (a_field : Nat) (a_sums : Nat) (a_spots : Nat) (a_locator : Nat) (a_rest : Nat) (a_arg1 : Nat) (n_arg1 : Nat) (v_size : Int32) (v_firstCheck : Int32) (v_spotted : Int32) (v_arg1 : Nat → Int32) (x2 : Int32) (res : Int32) (h : fX0_fits v_size n_arg1 x2 = res) : Ctr l yX0_fits cX0_fits 3 (some .boolean) (rmK 0 0) D (tyL cB cI cZ) tw [.ref a_this, .ref a_arg1, .int x2] (wX0_fits cB cI cZ a_this a_field a_sums a_spots a_locator a_rest a_arg1 n_arg1 v_size v_firstCheck v_spotted v_arg1) (fun res : Int32 => some (.int res)) (fun res : Int32 => (wX0_fits cB cI cZ a_this a_field a_sums a_spots a_locator a_rest a_arg1 n_arg1 v_size v_firstCheck v_spotted v_arg1)) res := by
  refine ctr_of RX0 (by decide) rfl (Nat.le_of_ble_eq_true rfl) ?_
  intro p e s m below meth c A C hw ls hl
  have hx := C.1
  have hb := C.2.1
  have hl : lv_has ls 3 [(0, .ref a_this), (1, .ref a_arg1), (2, .int x2)] := hl
  unfold fX0_fits at h
  refine lv_aload_n (pc := 0) hx hb dX0_fits_0 rfl (lv_at hl 1 rfl) ?_
  refine lv_ifnull (pc := 1) hx hb dX0_fits_1 ?_
  refine lv_iload_n (pc := 4) hx hb dX0_fits_4 rfl (lv_at hl 2 rfl) ?_
  refine lv_if_lt (pc := 5) (tgt := 23) hx hb dX0_fits_5 (by decide) (fun hc_1 => ?_) (fun hc_1 => ?_)
  · have h := ift hc_1 h
    refine lv_iconst (pc := 23) (v := 0) hx hb dX0_fits_23 (by decide) ?_
    exact x_zret (pc := 24) (v := 0) C h rfl rfl hw dX0_fits_24
  · have h := iff' hc_1 h
    refine lv_iload_n (pc := 8) hx hb dX0_fits_8 rfl (lv_at hl 2 rfl) ?_
    refine lv_aload_n (pc := 9) hx hb dX0_fits_9 rfl (lv_at hl 1 rfl) ?_
    refine x_ilen (pc := 10) (Int32.ofNat n_arg1) C hw 1 0 rfl rfl rfl dX0_fits_10 ?_
    refine lv_aload_n (pc := 11) hx hb dX0_fits_11 rfl (lv_at hl 0 rfl) ?_
    refine gf_X0_28 (pc := 12) C hw 0 rfl rfl dX0_fits_12 ?_
    refine lv_isub (pc := 15) hx hb dX0_fits_15 ?_
    refine lv_icmp_gt (pc := 16) (tgt := 23) hx hb dX0_fits_16 (by decide) (fun hc_2 => ?_) (fun hc_2 => ?_)
    · have h := ift hc_2 h
      refine lv_iconst (pc := 23) (v := 0) hx hb dX0_fits_23 (by decide) ?_
      exact x_zret (pc := 24) (v := 0) C h rfl rfl hw dX0_fits_24
    · have h := iff' hc_2 h
      refine lv_iconst (pc := 19) (v := 1) hx hb dX0_fits_19 (by decide) ?_
      refine lv_goto (pc := 20) (tgt := 24) hx hb dX0_fits_20 (by decide) ?_
      exact x_zret (pc := 24) (v := 1) C h rfl rfl hw dX0_fits_24
def wX0_sumUp (cB cI cZ : ClassId) (a_this : Nat) (a_field : Nat) (a_sums : Nat) (a_spots : Nat) (a_locator : Nat) (a_rest : Nat) (a_arg1 : Nat) (n_arg1 : Nat) (v_size : Int32) (v_firstCheck : Int32) (v_spotted : Int32) (v_sums : Nat → Int32) (v_arg1 : Nat → Int32) : va_W := [oX0 a_this a_field v_size v_firstCheck a_sums a_spots v_spotted a_locator a_rest, (a_sums, .inl (cI, 4, .inl v_sums)), (a_arg1, .inl (cB, n_arg1, .inl v_arg1))]
def fX0_sumUp_L35 (t_3 : Int32) (j102_9 : Int32 → Int32 → Int32 → Int32 → Option ((Nat → Int32))) (n_arg1 : Nat) (v_arg1 : Nat → Int32) : Nat → Int32 → Int32 → Int32 → Int32 → Int32 → Option ((Nat → Int32))
  | 0, _, _, _, _, _ => none
  | F35_23 + 1, x8_18, x6_19, x5_20, x4_21, x3_22 => if t_3 ≤ x8_18 then j102_9 x6_19 x5_20 x4_21 x3_22 else og (ixb x8_18 n_arg1) (nm (((v_arg1 (Int32.toNatClampNeg x8_18)) &&& (255 : Int32)) : Int32) fun x9_26 => nm ((x3_22 ^^^ x9_26) : Int32) fun x3_27 => nt1 (fX2_twice x4_21) fun r_28 => nm ((r_28 ^^^ x9_26) : Int32) fun x4_30 => nt1 (fX2_twice x5_20) fun r_31 => nt1 (fX2_twice r_31) fun r_33 => nm ((r_33 ^^^ x9_26) : Int32) fun x5_35 => nt1 (fX2_twice x6_19) fun r_36 => nt1 (fX2_twice r_36) fun r_38 => nt1 (fX2_twice r_38) fun r_40 => nm ((r_40 ^^^ x9_26) : Int32) fun x6_42 => nm (x8_18 + 1 : Int32) fun x8_43 => fX0_sumUp_L35 t_3 j102_9 n_arg1 v_arg1 F35_23 x8_43 x6_42 x5_35 x4_30 x3_27)
def fX0_sumUp (v_size : Int32) (v_sums : Nat → Int32) (v_arg1 : Nat → Int32) (n_arg1 : Nat) (x2 : Int32) : Option ((Nat → Int32)) := nt1 (fX0_fits v_size n_arg1 x2) fun r_1 => jk (fun (t_3 : Int32) => jk (fun (x6_5 : Int32) (x5_6 : Int32) (x4_7 : Int32) (x3_8 : Int32) => og (ixb 0 4) (nm (upd v_sums (Int32.toNatClampNeg 0) x3_8) fun v_sums_11 => og (ixb 1 4) (nm (upd v_sums_11 (Int32.toNatClampNeg 1) x4_7) fun v_sums_13 => og (ixb 2 4) (nm (upd v_sums_13 (Int32.toNatClampNeg 2) x5_6) fun v_sums_15 => og (ixb 3 4) (nm (upd v_sums_15 (Int32.toNatClampNeg 3) x6_5) fun v_sums_17 => some v_sums_17))))) fun j102_9 => fX0_sumUp_L35 t_3 j102_9 n_arg1 v_arg1 FU x2 0 0 0 0) fun j30_4 => if r_1 = 0 then j30_4 x2 else j30_4 (x2 + v_size)
set_option maxHeartbeats 4000000 in
set_option maxRecDepth 100000 in
theorem ct_X0_sumUp (l : Launch) (D : va_G) (cB cI cZ : ClassId) (tw : Nat) (a_this : Nat) (a_field : Nat) (a_sums : Nat) (a_spots : Nat) (a_locator : Nat) (a_rest : Nat) (a_arg1 : Nat) (n_arg1 : Nat) (v_size : Int32) (v_firstCheck : Int32) (v_spotted : Int32) (v_sums : Nat → Int32) (v_arg1 : Nat → Int32) (x2 : Int32) (res : (Nat → Int32)) (h : fX0_sumUp v_size v_sums v_arg1 n_arg1 x2 = some res) : Ctr l yX0_sumUp cX0_sumUp 10 none (rmK 1 22) D (tyL cB cI cZ) tw [.ref a_this, .ref a_arg1, .int x2] (wX0_sumUp cB cI cZ a_this a_field a_sums a_spots a_locator a_rest a_arg1 n_arg1 v_size v_firstCheck v_spotted v_sums v_arg1) (fun _ : (Nat → Int32) => none) (fun res : (Nat → Int32) => (wX0_sumUp cB cI cZ a_this a_field a_sums a_spots a_locator a_rest a_arg1 n_arg1 v_size v_firstCheck v_spotted res v_arg1)) res := by
  refine ctr_of RX0 (by decide) rfl (Nat.le_of_ble_eq_true rfl) ?_
  intro p e s m below meth c A C hw ls hl
  have hx := C.1
  have hb := C.2.1
  have hl : lv_has ls 10 [(0, .ref a_this), (1, .ref a_arg1), (2, .int x2)] := hl
  unfold fX0_sumUp at h
  refine lv_iconst (pc := 0) (v := 0) hx hb dX0_sumUp_0 (by decide) ?_
  refine lv_istore_n (pc := 1) (lv' := [(3, .int 0), (0, .ref a_this), (1, .ref a_arg1), (2, .int x2)]) hx hb dX0_sumUp_1 rfl hl (by decide) rfl (fun ls hl => ?_)
  refine lv_iconst (pc := 2) (v := 0) hx hb dX0_sumUp_2 (by decide) ?_
  refine lv_istore (pc := 3) (lv' := [(4, .int 0), (3, .int 0), (0, .ref a_this), (1, .ref a_arg1), (2, .int x2)]) hx hb dX0_sumUp_3 hl (by decide) rfl (fun ls hl => ?_)
  refine lv_iconst (pc := 5) (v := 0) hx hb dX0_sumUp_5 (by decide) ?_
  refine lv_istore (pc := 6) (lv' := [(5, .int 0), (4, .int 0), (3, .int 0), (0, .ref a_this), (1, .ref a_arg1), (2, .int x2)]) hx hb dX0_sumUp_6 hl (by decide) rfl (fun ls hl => ?_)
  refine lv_iconst (pc := 8) (v := 0) hx hb dX0_sumUp_8 (by decide) ?_
  refine lv_istore (pc := 9) (lv' := [(6, .int 0), (5, .int 0), (4, .int 0), (3, .int 0), (0, .ref a_this), (1, .ref a_arg1), (2, .int x2)]) hx hb dX0_sumUp_9 hl (by decide) rfl (fun ls hl => ?_)
  refine lv_aload_n (pc := 11) hx hb dX0_sumUp_11 rfl (lv_at hl 4 rfl) ?_
  refine lv_aload_n (pc := 12) hx hb dX0_sumUp_12 rfl (lv_at hl 5 rfl) ?_
  refine lv_iload_n (pc := 13) hx hb dX0_sumUp_13 rfl (lv_at hl 6 rfl) ?_
  obtain ⟨r_1, hq_2, h⟩ := nt1_at h
  refine x_callV (pc := 14) (rest := []) (stk := [.int r_1]) (wX0_sumUp cB cI cZ a_this a_field a_sums a_spots a_locator a_rest a_arg1 n_arg1 v_size v_firstCheck v_spotted v_sums v_arg1) C hw (ct_X0_fits l D cB cI cZ tw a_this a_field a_sums a_spots a_locator a_rest a_arg1 n_arg1 v_size v_firstCheck v_spotted v_arg1 x2 r_1 hq_2.symm) cal_X0_fits tw_389 (q0 := 0) rfl rfl [0, 2] [1] 3 [(a_sums, .inl (cI, 4, .inl v_sums))] rfl rfl rfl rfl rfl rfl rfl rfl rfl rfl rfl (Nat.le_of_ble_eq_true rfl) hl.1 ⟨Nat.le_of_ble_eq_true rfl, Nat.le_of_ble_eq_true rfl⟩ ⟨Nat.zero_le _, Nat.zero_le _⟩ dX0_sumUp_14 (fun H locs hw => ?_)
  obtain ⟨j30_4, ej30_4, h⟩ := jk_at h
  have J30_4 : ∀ (t_3 : Int32) (ls : Array Slot) (H : Heap) (locs : List Loc), lv_has ls 10 [(6, .int 0), (5, .int 0), (4, .int 0), (3, .int 0), (0, .ref a_this), (1, .ref a_arg1), (2, .int x2)] → Wd D A s (wX0_sumUp cB cI cZ a_this a_field a_sums a_spots a_locator a_rest a_arg1 n_arg1 v_size v_firstCheck v_spotted v_sums v_arg1) H locs → j30_4 t_3 = some res → W p l e (rmK 1 22) s m ([.ref a_this, .ref a_arg1, .int x2] : List Value).toArray below meth c H locs 0 0 (MQ below (QG D (tyL cB cI cZ) A (fun _ : (Nat → Int32) => none) (fun res : (Nat → Int32) => (wX0_sumUp cB cI cZ a_this a_field a_sums a_spots a_locator a_rest a_arg1 n_arg1 v_size v_firstCheck v_spotted res v_arg1)) res) ([.ref a_this, .ref a_arg1, .int x2] : List Value).toArray s 0 0 A) (F0 m 30 ls [.int t_3]) := by
    intro t_3 ls H locs hl hw h
    have h := k1_at ej30_4 h
    refine lv_istore (pc := 30) (lv' := [(7, .int t_3), (6, .int 0), (5, .int 0), (4, .int 0), (3, .int 0), (0, .ref a_this), (1, .ref a_arg1), (2, .int x2)]) hx hb dX0_sumUp_30 hl (by decide) rfl (fun ls hl => ?_)
    refine lv_iload_n (pc := 32) hx hb dX0_sumUp_32 rfl (lv_at hl 7 rfl) ?_
    refine lv_istore (pc := 33) (lv' := [(8, .int x2), (7, .int t_3), (6, .int 0), (5, .int 0), (4, .int 0), (3, .int 0), (0, .ref a_this), (1, .ref a_arg1), (2, .int x2)]) hx hb dX0_sumUp_33 hl (by decide) rfl (fun ls hl => ?_)
    obtain ⟨j102_9, ej102_9, h⟩ := jk_at h
    have J102_9 : ∀ (x6_5 : Int32) (x5_6 : Int32) (x4_7 : Int32) (x3_8 : Int32) (ls : Array Slot) (H : Heap) (locs : List Loc), lv_has ls 10 [(6, .int x6_5), (5, .int x5_6), (4, .int x4_7), (3, .int x3_8), (0, .ref a_this)] → Wd D A s (wX0_sumUp cB cI cZ a_this a_field a_sums a_spots a_locator a_rest a_arg1 n_arg1 v_size v_firstCheck v_spotted v_sums v_arg1) H locs → j102_9 x6_5 x5_6 x4_7 x3_8 = some res → W p l e (rmK 1 22) s m ([.ref a_this, .ref a_arg1, .int x2] : List Value).toArray below meth c H locs 0 0 (MQ below (QG D (tyL cB cI cZ) A (fun _ : (Nat → Int32) => none) (fun res : (Nat → Int32) => (wX0_sumUp cB cI cZ a_this a_field a_sums a_spots a_locator a_rest a_arg1 n_arg1 v_size v_firstCheck v_spotted res v_arg1)) res) ([.ref a_this, .ref a_arg1, .int x2] : List Value).toArray s 0 0 A) (F0 m 102 ls []) := by
      intro x6_5 x5_6 x4_7 x3_8 ls H locs hl hw h
      have h := k4_at ej102_9 h
      refine lv_aload_n (pc := 102) hx hb dX0_sumUp_102 rfl (lv_at hl 4 rfl) ?_
      refine gf_X0_9 (pc := 103) C hw 0 rfl rfl dX0_sumUp_103 ?_
      refine lv_iconst (pc := 106) (v := 0) hx hb dX0_sumUp_106 (by decide) ?_
      refine lv_iload_n (pc := 107) hx hb dX0_sumUp_107 rfl (lv_at hl 3 rfl) ?_
      obtain ⟨hi_10, h⟩ := og_at h
      obtain ⟨v_sums_11, ev_sums_11⟩ : ∃ y : Nat → Int32, y = upd v_sums (Int32.toNatClampNeg 0) x3_8 := ⟨_, rfl⟩
      have h := nm_at ev_sums_11 h
      refine x_iast (pc := 108) (wX0_sumUp cB cI cZ a_this a_field a_sums a_spots a_locator a_rest a_arg1 n_arg1 v_size v_firstCheck v_spotted v_sums_11 v_arg1) C hw 1 rfl hi_10 (by rw [ev_sums_11]; rfl) dX0_sumUp_108 (fun H locs hw => ?_)
      refine lv_aload_n (pc := 109) hx hb dX0_sumUp_109 rfl (lv_at hl 4 rfl) ?_
      refine gf_X0_9 (pc := 110) C hw 0 rfl rfl dX0_sumUp_110 ?_
      refine lv_iconst (pc := 113) (v := 1) hx hb dX0_sumUp_113 (by decide) ?_
      refine lv_iload (pc := 114) hx hb dX0_sumUp_114 (lv_at hl 2 rfl) ?_
      obtain ⟨hi_12, h⟩ := og_at h
      obtain ⟨v_sums_13, ev_sums_13⟩ : ∃ y : Nat → Int32, y = upd v_sums_11 (Int32.toNatClampNeg 1) x4_7 := ⟨_, rfl⟩
      have h := nm_at ev_sums_13 h
      refine x_iast (pc := 116) (wX0_sumUp cB cI cZ a_this a_field a_sums a_spots a_locator a_rest a_arg1 n_arg1 v_size v_firstCheck v_spotted v_sums_13 v_arg1) C hw 1 rfl hi_12 (by rw [ev_sums_13]; rfl) dX0_sumUp_116 (fun H locs hw => ?_)
      refine lv_aload_n (pc := 117) hx hb dX0_sumUp_117 rfl (lv_at hl 4 rfl) ?_
      refine gf_X0_9 (pc := 118) C hw 0 rfl rfl dX0_sumUp_118 ?_
      refine lv_iconst (pc := 121) (v := 2) hx hb dX0_sumUp_121 (by decide) ?_
      refine lv_iload (pc := 122) hx hb dX0_sumUp_122 (lv_at hl 1 rfl) ?_
      obtain ⟨hi_14, h⟩ := og_at h
      obtain ⟨v_sums_15, ev_sums_15⟩ : ∃ y : Nat → Int32, y = upd v_sums_13 (Int32.toNatClampNeg 2) x5_6 := ⟨_, rfl⟩
      have h := nm_at ev_sums_15 h
      refine x_iast (pc := 124) (wX0_sumUp cB cI cZ a_this a_field a_sums a_spots a_locator a_rest a_arg1 n_arg1 v_size v_firstCheck v_spotted v_sums_15 v_arg1) C hw 1 rfl hi_14 (by rw [ev_sums_15]; rfl) dX0_sumUp_124 (fun H locs hw => ?_)
      refine lv_aload_n (pc := 125) hx hb dX0_sumUp_125 rfl (lv_at hl 4 rfl) ?_
      refine gf_X0_9 (pc := 126) C hw 0 rfl rfl dX0_sumUp_126 ?_
      refine lv_iconst (pc := 129) (v := 3) hx hb dX0_sumUp_129 (by decide) ?_
      refine lv_iload (pc := 130) hx hb dX0_sumUp_130 (lv_at hl 0 rfl) ?_
      obtain ⟨hi_16, h⟩ := og_at h
      obtain ⟨v_sums_17, ev_sums_17⟩ : ∃ y : Nat → Int32, y = upd v_sums_15 (Int32.toNatClampNeg 3) x6_5 := ⟨_, rfl⟩
      have h := nm_at ev_sums_17 h
      refine x_iast (pc := 132) (wX0_sumUp cB cI cZ a_this a_field a_sums a_spots a_locator a_rest a_arg1 n_arg1 v_size v_firstCheck v_spotted v_sums_17 v_arg1) C hw 1 rfl hi_16 (by rw [ev_sums_17]; rfl) dX0_sumUp_132 (fun H locs hw => ?_)
      exact x_vret (pc := 133) (v := v_sums_17) C (Option.some.inj h) rfl hw dX0_sumUp_133
    have Lih35_23 : ∀ (F : Nat) (x8_18 : Int32) (x6_19 : Int32) (x5_20 : Int32) (x4_21 : Int32) (x3_22 : Int32) (ls : Array Slot) (H : Heap) (locs : List Loc), lv_has ls 10 [(8, .int x8_18), (7, .int t_3), (6, .int x6_19), (5, .int x5_20), (4, .int x4_21), (3, .int x3_22), (0, .ref a_this), (1, .ref a_arg1)] → Wd D A s (wX0_sumUp cB cI cZ a_this a_field a_sums a_spots a_locator a_rest a_arg1 n_arg1 v_size v_firstCheck v_spotted v_sums v_arg1) H locs → fX0_sumUp_L35 t_3 j102_9 n_arg1 v_arg1 F x8_18 x6_19 x5_20 x4_21 x3_22 = some res → W p l e (rmK 1 22) s m ([.ref a_this, .ref a_arg1, .int x2] : List Value).toArray below meth c H locs 0 0 (MQ below (QG D (tyL cB cI cZ) A (fun _ : (Nat → Int32) => none) (fun res : (Nat → Int32) => (wX0_sumUp cB cI cZ a_this a_field a_sums a_spots a_locator a_rest a_arg1 n_arg1 v_size v_firstCheck v_spotted res v_arg1)) res) ([.ref a_this, .ref a_arg1, .int x2] : List Value).toArray s 0 0 A) (F0 m 35 ls []) := by
      intro F
      induction F with
      | zero => intro x8_18 x6_19 x5_20 x4_21 x3_22 ls H locs hl hw h; rw [fX0_sumUp_L35.eq_1] at h; cases h
      | succ F35_23 ih35_23 =>
        intro x8_18 x6_19 x5_20 x4_21 x3_22 ls H locs hl hw h
        rw [fX0_sumUp_L35.eq_2] at h
        refine lv_iload (pc := 35) hx hb dX0_sumUp_35 (lv_at hl 0 rfl) ?_
        refine lv_iload (pc := 37) hx hb dX0_sumUp_37 (lv_at hl 1 rfl) ?_
        refine lv_icmp_ge (pc := 39) (tgt := 102) hx hb dX0_sumUp_39 (by decide) (fun hc_24 => ?_) (fun hc_24 => ?_)
        · have h := ift hc_24 h
          exact J102_9 x6_19 x5_20 x4_21 x3_22 ls _ _ (lv_sub hl [2, 3, 4, 5, 6] rfl) hw h
        · have h := iff' hc_24 h
          refine lv_aload_n (pc := 42) hx hb dX0_sumUp_42 rfl (lv_at hl 7 rfl) ?_
          refine lv_iload (pc := 43) hx hb dX0_sumUp_43 (lv_at hl 0 rfl) ?_
          obtain ⟨hi_25, h⟩ := og_at h
          refine x_bald (pc := 45) C hw 2 rfl hi_25 dX0_sumUp_45 ?_
          refine lv_sipush (pc := 46) (v := 255) hx hb dX0_sumUp_46 (by decide) ?_
          refine lv_iand (pc := 49) hx hb dX0_sumUp_49 ?_
          refine lv_topi (pc := 50) (fun x9_26 ex9_26 => ?_)
          have h := nm_at ex9_26 h
          refine lv_istore (pc := 50) (lv' := [(9, .int x9_26), (8, .int x8_18), (7, .int t_3), (6, .int x6_19), (5, .int x5_20), (4, .int x4_21), (3, .int x3_22), (0, .ref a_this), (1, .ref a_arg1)]) hx hb dX0_sumUp_50 hl (by decide) rfl (fun ls hl => ?_)
          refine lv_iload_n (pc := 52) hx hb dX0_sumUp_52 rfl (lv_at hl 6 rfl) ?_
          refine lv_iload (pc := 53) hx hb dX0_sumUp_53 (lv_at hl 0 rfl) ?_
          refine lv_ixor (pc := 55) hx hb dX0_sumUp_55 ?_
          refine lv_topi (pc := 56) (fun x3_27 ex3_27 => ?_)
          have h := nm_at ex3_27 h
          refine lv_istore_n (pc := 56) (lv' := [(3, .int x3_27), (9, .int x9_26), (8, .int x8_18), (7, .int t_3), (6, .int x6_19), (5, .int x5_20), (4, .int x4_21), (0, .ref a_this), (1, .ref a_arg1)]) hx hb dX0_sumUp_56 rfl hl (by decide) rfl (fun ls hl => ?_)
          refine lv_iload (pc := 57) hx hb dX0_sumUp_57 (lv_at hl 6 rfl) ?_
          obtain ⟨r_28, hq_29, h⟩ := nt1_at h
          refine x_callS (pc := 59) (rest := []) (stk := [.int r_28]) (wX0_sumUp cB cI cZ a_this a_field a_sums a_spots a_locator a_rest a_arg1 n_arg1 v_size v_firstCheck v_spotted v_sums v_arg1) C hw (ct_X2_twice l D cB cI cZ tw x4_21 r_28 hq_29.symm) cal_X2_twice tw_393 [] [0, 1, 2] 3 [oX0 a_this a_field v_size v_firstCheck a_sums a_spots v_spotted a_locator a_rest, (a_sums, .inl (cI, 4, .inl v_sums)), (a_arg1, .inl (cB, n_arg1, .inl v_arg1))] rfl rfl rfl rfl rfl rfl rfl rfl rfl rfl rfl (Nat.le_of_ble_eq_true rfl) hl.1 ⟨Nat.le_of_ble_eq_true rfl, Nat.le_of_ble_eq_true rfl⟩ ⟨Nat.zero_le _, Nat.zero_le _⟩ dX0_sumUp_59 (fun H locs hw => ?_)
          refine lv_iload (pc := 62) hx hb dX0_sumUp_62 (lv_at hl 1 rfl) ?_
          refine lv_ixor (pc := 64) hx hb dX0_sumUp_64 ?_
          refine lv_topi (pc := 65) (fun x4_30 ex4_30 => ?_)
          have h := nm_at ex4_30 h
          refine lv_istore (pc := 65) (lv' := [(4, .int x4_30), (3, .int x3_27), (9, .int x9_26), (8, .int x8_18), (7, .int t_3), (6, .int x6_19), (5, .int x5_20), (0, .ref a_this), (1, .ref a_arg1)]) hx hb dX0_sumUp_65 hl (by decide) rfl (fun ls hl => ?_)
          refine lv_iload (pc := 67) hx hb dX0_sumUp_67 (lv_at hl 6 rfl) ?_
          obtain ⟨r_31, hq_32, h⟩ := nt1_at h
          refine x_callS (pc := 69) (rest := []) (stk := [.int r_31]) (wX0_sumUp cB cI cZ a_this a_field a_sums a_spots a_locator a_rest a_arg1 n_arg1 v_size v_firstCheck v_spotted v_sums v_arg1) C hw (ct_X2_twice l D cB cI cZ tw x5_20 r_31 hq_32.symm) cal_X2_twice tw_393 [] [0, 1, 2] 3 [oX0 a_this a_field v_size v_firstCheck a_sums a_spots v_spotted a_locator a_rest, (a_sums, .inl (cI, 4, .inl v_sums)), (a_arg1, .inl (cB, n_arg1, .inl v_arg1))] rfl rfl rfl rfl rfl rfl rfl rfl rfl rfl rfl (Nat.le_of_ble_eq_true rfl) hl.1 ⟨Nat.le_of_ble_eq_true rfl, Nat.le_of_ble_eq_true rfl⟩ ⟨Nat.zero_le _, Nat.zero_le _⟩ dX0_sumUp_69 (fun H locs hw => ?_)
          obtain ⟨r_33, hq_34, h⟩ := nt1_at h
          refine x_callS (pc := 72) (rest := []) (stk := [.int r_33]) (wX0_sumUp cB cI cZ a_this a_field a_sums a_spots a_locator a_rest a_arg1 n_arg1 v_size v_firstCheck v_spotted v_sums v_arg1) C hw (ct_X2_twice l D cB cI cZ tw r_31 r_33 hq_34.symm) cal_X2_twice tw_393 [] [0, 1, 2] 3 [oX0 a_this a_field v_size v_firstCheck a_sums a_spots v_spotted a_locator a_rest, (a_sums, .inl (cI, 4, .inl v_sums)), (a_arg1, .inl (cB, n_arg1, .inl v_arg1))] rfl rfl rfl rfl rfl rfl rfl rfl rfl rfl rfl (Nat.le_of_ble_eq_true rfl) hl.1 ⟨Nat.le_of_ble_eq_true rfl, Nat.le_of_ble_eq_true rfl⟩ ⟨Nat.zero_le _, Nat.zero_le _⟩ dX0_sumUp_72 (fun H locs hw => ?_)
          refine lv_iload (pc := 75) hx hb dX0_sumUp_75 (lv_at hl 2 rfl) ?_
          refine lv_ixor (pc := 77) hx hb dX0_sumUp_77 ?_
          refine lv_topi (pc := 78) (fun x5_35 ex5_35 => ?_)
          have h := nm_at ex5_35 h
          refine lv_istore (pc := 78) (lv' := [(5, .int x5_35), (4, .int x4_30), (3, .int x3_27), (9, .int x9_26), (8, .int x8_18), (7, .int t_3), (6, .int x6_19), (0, .ref a_this), (1, .ref a_arg1)]) hx hb dX0_sumUp_78 hl (by decide) rfl (fun ls hl => ?_)
          refine lv_iload (pc := 80) hx hb dX0_sumUp_80 (lv_at hl 6 rfl) ?_
          obtain ⟨r_36, hq_37, h⟩ := nt1_at h
          refine x_callS (pc := 82) (rest := []) (stk := [.int r_36]) (wX0_sumUp cB cI cZ a_this a_field a_sums a_spots a_locator a_rest a_arg1 n_arg1 v_size v_firstCheck v_spotted v_sums v_arg1) C hw (ct_X2_twice l D cB cI cZ tw x6_19 r_36 hq_37.symm) cal_X2_twice tw_393 [] [0, 1, 2] 3 [oX0 a_this a_field v_size v_firstCheck a_sums a_spots v_spotted a_locator a_rest, (a_sums, .inl (cI, 4, .inl v_sums)), (a_arg1, .inl (cB, n_arg1, .inl v_arg1))] rfl rfl rfl rfl rfl rfl rfl rfl rfl rfl rfl (Nat.le_of_ble_eq_true rfl) hl.1 ⟨Nat.le_of_ble_eq_true rfl, Nat.le_of_ble_eq_true rfl⟩ ⟨Nat.zero_le _, Nat.zero_le _⟩ dX0_sumUp_82 (fun H locs hw => ?_)
          obtain ⟨r_38, hq_39, h⟩ := nt1_at h
          refine x_callS (pc := 85) (rest := []) (stk := [.int r_38]) (wX0_sumUp cB cI cZ a_this a_field a_sums a_spots a_locator a_rest a_arg1 n_arg1 v_size v_firstCheck v_spotted v_sums v_arg1) C hw (ct_X2_twice l D cB cI cZ tw r_36 r_38 hq_39.symm) cal_X2_twice tw_393 [] [0, 1, 2] 3 [oX0 a_this a_field v_size v_firstCheck a_sums a_spots v_spotted a_locator a_rest, (a_sums, .inl (cI, 4, .inl v_sums)), (a_arg1, .inl (cB, n_arg1, .inl v_arg1))] rfl rfl rfl rfl rfl rfl rfl rfl rfl rfl rfl (Nat.le_of_ble_eq_true rfl) hl.1 ⟨Nat.le_of_ble_eq_true rfl, Nat.le_of_ble_eq_true rfl⟩ ⟨Nat.zero_le _, Nat.zero_le _⟩ dX0_sumUp_85 (fun H locs hw => ?_)
          obtain ⟨r_40, hq_41, h⟩ := nt1_at h
          refine x_callS (pc := 88) (rest := []) (stk := [.int r_40]) (wX0_sumUp cB cI cZ a_this a_field a_sums a_spots a_locator a_rest a_arg1 n_arg1 v_size v_firstCheck v_spotted v_sums v_arg1) C hw (ct_X2_twice l D cB cI cZ tw r_38 r_40 hq_41.symm) cal_X2_twice tw_393 [] [0, 1, 2] 3 [oX0 a_this a_field v_size v_firstCheck a_sums a_spots v_spotted a_locator a_rest, (a_sums, .inl (cI, 4, .inl v_sums)), (a_arg1, .inl (cB, n_arg1, .inl v_arg1))] rfl rfl rfl rfl rfl rfl rfl rfl rfl rfl rfl (Nat.le_of_ble_eq_true rfl) hl.1 ⟨Nat.le_of_ble_eq_true rfl, Nat.le_of_ble_eq_true rfl⟩ ⟨Nat.zero_le _, Nat.zero_le _⟩ dX0_sumUp_88 (fun H locs hw => ?_)
          refine lv_iload (pc := 91) hx hb dX0_sumUp_91 (lv_at hl 3 rfl) ?_
          refine lv_ixor (pc := 93) hx hb dX0_sumUp_93 ?_
          refine lv_topi (pc := 94) (fun x6_42 ex6_42 => ?_)
          have h := nm_at ex6_42 h
          refine lv_istore (pc := 94) (lv' := [(6, .int x6_42), (5, .int x5_35), (4, .int x4_30), (3, .int x3_27), (9, .int x9_26), (8, .int x8_18), (7, .int t_3), (0, .ref a_this), (1, .ref a_arg1)]) hx hb dX0_sumUp_94 hl (by decide) rfl (fun ls hl => ?_)
          obtain ⟨x8_43, ex8_43⟩ : ∃ y : Int32, y = x8_18 + 1 := ⟨_, rfl⟩
          have h := nm_at ex8_43 h
          refine lv_iinc (pc := 96) (v := x8_43) (lv' := [(8, .int x8_43), (6, .int x6_42), (5, .int x5_35), (4, .int x4_30), (3, .int x3_27), (9, .int x9_26), (7, .int t_3), (0, .ref a_this), (1, .ref a_arg1)]) hx hb dX0_sumUp_96 hl (k := 5) rfl (by rw [ex8_43]; rfl) (by decide) rfl (fun ls hl => ?_)
          refine lv_goto (pc := 99) (tgt := 35) hx hb dX0_sumUp_99 (by decide) ?_
          exact ih35_23 x8_43 x6_42 x5_35 x4_30 x3_27 ls _ _ (lv_sub hl [0, 6, 1, 2, 3, 4, 7, 8] rfl) hw h
    exact Lih35_23 FU x2 0 0 0 0 ls _ _ (lv_sub hl [0, 1, 2, 3, 4, 5, 6, 7] rfl) hw h
  refine lv_if_eq (pc := 17) (tgt := 29) hx hb dX0_sumUp_17 (by decide) (fun hc_44 => ?_) (fun hc_44 => ?_)
  · have h := ift hc_44 h
    refine lv_iload_n (pc := 29) hx hb dX0_sumUp_29 rfl (lv_at hl 6 rfl) ?_
    exact J30_4 x2 ls _ _ (lv_sub hl [0, 1, 2, 3, 4, 5, 6] rfl) hw h
  · have h := iff' hc_44 h
    refine lv_iload_n (pc := 20) hx hb dX0_sumUp_20 rfl (lv_at hl 6 rfl) ?_
    refine lv_aload_n (pc := 21) hx hb dX0_sumUp_21 rfl (lv_at hl 4 rfl) ?_
    refine gf_X0_28 (pc := 22) C hw 0 rfl rfl dX0_sumUp_22 ?_
    refine lv_iadd (pc := 25) hx hb dX0_sumUp_25 ?_
    refine lv_goto (pc := 26) (tgt := 30) hx hb dX0_sumUp_26 (by decide) ?_
    exact J30_4 (x2 + v_size) ls _ _ (lv_sub hl [0, 1, 2, 3, 4, 5, 6] rfl) hw h
def wX0_sumOf (cB cI cZ : ClassId) (a_this : Nat) (a_field : Nat) (a_sums : Nat) (a_spots : Nat) (a_locator : Nat) (a_rest : Nat) (a_arg1 : Nat) (n_arg1 : Nat) (v_size : Int32) (v_firstCheck : Int32) (v_spotted : Int32) (v_sums : Nat → Int32) (v_arg1 : Nat → Int32) : va_W := [oX0 a_this a_field v_size v_firstCheck a_sums a_spots v_spotted a_locator a_rest, (a_sums, .inl (cI, 4, .inl v_sums)), (a_arg1, .inl (cB, n_arg1, .inl v_arg1))]
def fX0_sumOf (v_size : Int32) (v_sums : Nat → Int32) (v_arg1 : Nat → Int32) (n_arg1 : Nat) (x2 : Int32) (x3 : Int32) : Option (Int32 × (Nat → Int32)) := ob1 (fX0_sumUp v_size v_sums v_arg1 n_arg1 x2) fun v_sums_1 => if x3 < 0 then some ((-1), v_sums_1) else if (4 : Int32) ≤ x3 then some ((-1), v_sums_1) else og (ixb x3 4) (some ((v_sums_1 (Int32.toNatClampNeg x3)), v_sums_1))
set_option maxHeartbeats 4000000 in
set_option maxRecDepth 100000 in
theorem ct_X0_sumOf (l : Launch) (D : va_G) (cB cI cZ : ClassId) (tw : Nat) (a_this : Nat) (a_field : Nat) (a_sums : Nat) (a_spots : Nat) (a_locator : Nat) (a_rest : Nat) (a_arg1 : Nat) (n_arg1 : Nat) (v_size : Int32) (v_firstCheck : Int32) (v_spotted : Int32) (v_sums : Nat → Int32) (v_arg1 : Nat → Int32) (x2 : Int32) (x3 : Int32) (res : Int32 × (Nat → Int32)) (h : fX0_sumOf v_size v_sums v_arg1 n_arg1 x2 x3 = some res) : Ctr l yX0_sumOf cX0_sumOf 4 (some .int) (rmK 2 51) D (tyL cB cI cZ) tw [.ref a_this, .ref a_arg1, .int x2, .int x3] (wX0_sumOf cB cI cZ a_this a_field a_sums a_spots a_locator a_rest a_arg1 n_arg1 v_size v_firstCheck v_spotted v_sums v_arg1) (fun res : Int32 × (Nat → Int32) => some (.int res.1)) (fun res : Int32 × (Nat → Int32) => (wX0_sumOf cB cI cZ a_this a_field a_sums a_spots a_locator a_rest a_arg1 n_arg1 v_size v_firstCheck v_spotted (res.2) v_arg1)) res := by
  refine ctr_of RX0 (by decide) rfl (Nat.le_of_ble_eq_true rfl) ?_
  intro p e s m below meth c A C hw ls hl
  have hx := C.1
  have hb := C.2.1
  have hl : lv_has ls 4 [(0, .ref a_this), (1, .ref a_arg1), (2, .int x2), (3, .int x3)] := hl
  unfold fX0_sumOf at h
  refine lv_aload_n (pc := 0) hx hb dX0_sumOf_0 rfl (lv_at hl 0 rfl) ?_
  refine lv_aload_n (pc := 1) hx hb dX0_sumOf_1 rfl (lv_at hl 1 rfl) ?_
  refine lv_iload_n (pc := 2) hx hb dX0_sumOf_2 rfl (lv_at hl 2 rfl) ?_
  obtain ⟨v_sums_1, hq_2, h⟩ := ob1_at h
  refine x_callV (pc := 3) (rest := []) (stk := []) (wX0_sumOf cB cI cZ a_this a_field a_sums a_spots a_locator a_rest a_arg1 n_arg1 v_size v_firstCheck v_spotted v_sums_1 v_arg1) C hw (ct_X0_sumUp l D cB cI cZ tw a_this a_field a_sums a_spots a_locator a_rest a_arg1 n_arg1 v_size v_firstCheck v_spotted v_sums v_arg1 x2 v_sums_1 hq_2) cal_X0_sumUp tw_385 (q0 := 0) rfl rfl [0, 1, 2] [] 3 [] rfl rfl rfl rfl rfl rfl rfl rfl rfl rfl rfl (Nat.le_of_ble_eq_true rfl) hl.1 ⟨Nat.le_of_ble_eq_true rfl, Nat.le_of_ble_eq_true rfl⟩ ⟨Nat.zero_le _, Nat.zero_le _⟩ dX0_sumOf_3 (fun H locs hw => ?_)
  refine lv_iload_n (pc := 6) hx hb dX0_sumOf_6 rfl (lv_at hl 3 rfl) ?_
  refine lv_if_lt (pc := 7) (tgt := 28) hx hb dX0_sumOf_7 (by decide) (fun hc_3 => ?_) (fun hc_3 => ?_)
  · have h := ift hc_3 h
    refine lv_iconst (pc := 28) (v := (-1)) hx hb dX0_sumOf_28 (by decide) ?_
    exact x_iret (pc := 29) (v := ((-1), v_sums_1)) C (Option.some.inj h) rfl hw dX0_sumOf_29
  · have h := iff' hc_3 h
    refine lv_iload_n (pc := 10) hx hb dX0_sumOf_10 rfl (lv_at hl 3 rfl) ?_
    refine lv_aload_n (pc := 11) hx hb dX0_sumOf_11 rfl (lv_at hl 0 rfl) ?_
    refine gf_X0_9 (pc := 12) C hw 0 rfl rfl dX0_sumOf_12 ?_
    refine x_ilen (pc := 15) 4 C hw 1 1 rfl rfl (by decide) dX0_sumOf_15 ?_
    refine lv_icmp_ge (pc := 16) (tgt := 28) hx hb dX0_sumOf_16 (by decide) (fun hc_4 => ?_) (fun hc_4 => ?_)
    · have h := ift hc_4 h
      refine lv_iconst (pc := 28) (v := (-1)) hx hb dX0_sumOf_28 (by decide) ?_
      exact x_iret (pc := 29) (v := ((-1), v_sums_1)) C (Option.some.inj h) rfl hw dX0_sumOf_29
    · have h := iff' hc_4 h
      refine lv_aload_n (pc := 19) hx hb dX0_sumOf_19 rfl (lv_at hl 0 rfl) ?_
      refine gf_X0_9 (pc := 20) C hw 0 rfl rfl dX0_sumOf_20 ?_
      refine lv_iload_n (pc := 23) hx hb dX0_sumOf_23 rfl (lv_at hl 3 rfl) ?_
      obtain ⟨hi_5, h⟩ := og_at h
      refine x_iald (pc := 24) C hw 1 rfl hi_5 dX0_sumOf_24 ?_
      refine lv_goto (pc := 25) (tgt := 29) hx hb dX0_sumOf_25 (by decide) ?_
      exact x_iret (pc := 29) (v := ((v_sums_1 (Int32.toNatClampNeg x3)), v_sums_1)) C (Option.some.inj h) rfl hw dX0_sumOf_29
def wX0_addSpot (cB cI cZ : ClassId) (a_this : Nat) (a_field : Nat) (a_sums : Nat) (a_spots : Nat) (a_locator : Nat) (a_rest : Nat) (v_size : Int32) (v_firstCheck : Int32) (v_spotted : Int32) (v_spots : Nat → Int32) : va_W := [oX0 a_this a_field v_size v_firstCheck a_sums a_spots v_spotted a_locator a_rest, (a_spots, .inl (cI, 4, .inl v_spots))]
def fX0_addSpot (v_spotted : Int32) (v_spots : Nat → Int32) (x1 : Int32) : Option (Int32 × (Nat → Int32)) := if v_spotted < 0 then some (v_spotted, v_spots) else if (4 : Int32) ≤ v_spotted then some (v_spotted, v_spots) else og (ixb v_spotted 4) (nm (upd v_spots (Int32.toNatClampNeg v_spotted) x1) fun v_spots_4 => nm ((v_spotted + (1 : Int32)) : Int32) fun v_spotted_5 => some (v_spotted_5, v_spots_4))
set_option maxHeartbeats 4000000 in
set_option maxRecDepth 100000 in
theorem ct_X0_addSpot (l : Launch) (D : va_G) (cB cI cZ : ClassId) (tw : Nat) (a_this : Nat) (a_field : Nat) (a_sums : Nat) (a_spots : Nat) (a_locator : Nat) (a_rest : Nat) (v_size : Int32) (v_firstCheck : Int32) (v_spotted : Int32) (v_spots : Nat → Int32) (x1 : Int32) (res : Int32 × (Nat → Int32)) (h : fX0_addSpot v_spotted v_spots x1 = some res) : Ctr l yX0_addSpot cX0_addSpot 2 none (rmK 0 0) D (tyL cB cI cZ) tw [.ref a_this, .int x1] (wX0_addSpot cB cI cZ a_this a_field a_sums a_spots a_locator a_rest v_size v_firstCheck v_spotted v_spots) (fun _ : Int32 × (Nat → Int32) => none) (fun res : Int32 × (Nat → Int32) => (wX0_addSpot cB cI cZ a_this a_field a_sums a_spots a_locator a_rest v_size v_firstCheck (res.1) (res.2))) res := by
  refine ctr_of RX0 (by decide) rfl (Nat.le_of_ble_eq_true rfl) ?_
  intro p e s m below meth c A C hw ls hl
  have hx := C.1
  have hb := C.2.1
  have hl : lv_has ls 2 [(0, .ref a_this), (1, .int x1)] := hl
  unfold fX0_addSpot at h
  refine lv_aload_n (pc := 0) hx hb dX0_addSpot_0 rfl (lv_at hl 0 rfl) ?_
  refine gf_X0_39 (pc := 1) C hw 0 rfl rfl dX0_addSpot_1 ?_
  refine lv_if_lt (pc := 4) (tgt := 39) hx hb dX0_addSpot_4 (by decide) (fun hc_1 => ?_) (fun hc_1 => ?_)
  · have h := ift hc_1 h
    exact x_vret (pc := 39) (v := (v_spotted, v_spots)) C (Option.some.inj h) rfl hw dX0_addSpot_39
  · have h := iff' hc_1 h
    refine lv_aload_n (pc := 7) hx hb dX0_addSpot_7 rfl (lv_at hl 0 rfl) ?_
    refine gf_X0_39 (pc := 8) C hw 0 rfl rfl dX0_addSpot_8 ?_
    refine lv_aload_n (pc := 11) hx hb dX0_addSpot_11 rfl (lv_at hl 0 rfl) ?_
    refine gf_X0_15 (pc := 12) C hw 0 rfl rfl dX0_addSpot_12 ?_
    refine x_ilen (pc := 15) 4 C hw 1 1 rfl rfl (by decide) dX0_addSpot_15 ?_
    refine lv_icmp_ge (pc := 16) (tgt := 39) hx hb dX0_addSpot_16 (by decide) (fun hc_2 => ?_) (fun hc_2 => ?_)
    · have h := ift hc_2 h
      exact x_vret (pc := 39) (v := (v_spotted, v_spots)) C (Option.some.inj h) rfl hw dX0_addSpot_39
    · have h := iff' hc_2 h
      refine lv_aload_n (pc := 19) hx hb dX0_addSpot_19 rfl (lv_at hl 0 rfl) ?_
      refine gf_X0_15 (pc := 20) C hw 0 rfl rfl dX0_addSpot_20 ?_
      refine lv_aload_n (pc := 23) hx hb dX0_addSpot_23 rfl (lv_at hl 0 rfl) ?_
      refine gf_X0_39 (pc := 24) C hw 0 rfl rfl dX0_addSpot_24 ?_
      refine lv_iload_n (pc := 27) hx hb dX0_addSpot_27 rfl (lv_at hl 1 rfl) ?_
      obtain ⟨hi_3, h⟩ := og_at h
      obtain ⟨v_spots_4, ev_spots_4⟩ : ∃ y : Nat → Int32, y = upd v_spots (Int32.toNatClampNeg v_spotted) x1 := ⟨_, rfl⟩
      have h := nm_at ev_spots_4 h
      refine x_iast (pc := 28) (wX0_addSpot cB cI cZ a_this a_field a_sums a_spots a_locator a_rest v_size v_firstCheck v_spotted v_spots_4) C hw 1 rfl hi_3 (by rw [ev_spots_4]; rfl) dX0_addSpot_28 (fun H locs hw => ?_)
      refine lv_aload_n (pc := 29) hx hb dX0_addSpot_29 rfl (lv_at hl 0 rfl) ?_
      refine lv_dup (pc := 30) hx hb dX0_addSpot_30 rfl ?_
      refine gf_X0_39 (pc := 31) C hw 0 rfl rfl dX0_addSpot_31 ?_
      refine lv_iconst (pc := 34) (v := 1) hx hb dX0_addSpot_34 (by decide) ?_
      refine lv_iadd (pc := 35) hx hb dX0_addSpot_35 ?_
      refine lv_topi (pc := 36) (fun v_spotted_5 ev_spotted_5 => ?_)
      have h := nm_at ev_spotted_5 h
      refine pf_X0_39 (pc := 36) (wX0_addSpot cB cI cZ a_this a_field a_sums a_spots a_locator a_rest v_size v_firstCheck v_spotted_5 v_spots_4) C hw 0 rfl rfl rfl rfl (Nat.le_of_ble_eq_true rfl) dX0_addSpot_36 (fun H locs hw => ?_)
      exact x_vret (pc := 39) (v := (v_spotted_5, v_spots_4)) C (Option.some.inj h) rfl hw dX0_addSpot_39
def wX0_spread (cB cI cZ : ClassId) (a_this : Nat) (a_field : Nat) (a_sums : Nat) (a_spots : Nat) (a_locator : Nat) (a_rest : Nat) (a_field_powers : Nat) (a_field_logs : Nat) (v_size : Int32) (v_firstCheck : Int32) (v_spotted : Int32) (v_locator : Nat → Int32) (v_spots : Nat → Int32) (v_field_logs : Nat → Int32) (v_field_powers : Nat → Int32) : va_W := [oX0 a_this a_field v_size v_firstCheck a_sums a_spots v_spotted a_locator a_rest, oX2 a_field a_field_powers a_field_logs, (a_locator, .inl (cI, 5, .inl v_locator)), (a_spots, .inl (cI, 4, .inl v_spots)), (a_field_logs, .inl (cI, 256, .inl v_field_logs)), (a_field_powers, .inl (cI, 510, .inl v_field_powers))]
def fX0_spread_L72 (j116_21 : (Nat → Int32) → Option (Int32 × (Nat → Int32))) (v_field_logs : Nat → Int32) (v_field_powers : Nat → Int32) (r_17 : Int32) : Nat → Int32 → (Nat → Int32) → Option (Int32 × (Nat → Int32))
  | 0, _, _ => none
  | F72_29 + 1, x5_27, v_locator_28 => if x5_27 ≤ 0 then j116_21 v_locator_28 else og (ixb (x5_27 - (1 : Int32)) 5) (og (ixb x5_27 5) (ob1 (fX2_times v_field_logs v_field_powers (v_locator_28 (Int32.toNatClampNeg x5_27)) r_17) fun r_33 => og (ixb x5_27 5) (nm (upd v_locator_28 (Int32.toNatClampNeg x5_27) ((v_locator_28 (Int32.toNatClampNeg (x5_27 - (1 : Int32)))) ^^^ r_33)) fun v_locator_36 => nm (x5_27 + (-1) : Int32) fun x5_37 => fX0_spread_L72 j116_21 v_field_logs v_field_powers r_17 F72_29 x5_37 v_locator_36)))
def fX0_spread_L19 (v_spotted : Int32) (x1 : Int32) (v_field_powers : Nat → Int32) (v_size : Int32) (v_spots : Nat → Int32) (v_field_logs : Nat → Int32) : Nat → Int32 → Int32 → (Nat → Int32) → Option (Int32 × (Nat → Int32))
  | 0, _, _, _ => none
  | F19_8 + 1, x3_5, x2_6, v_locator_7 => if v_spotted ≤ x3_5 then some (x2_6, v_locator_7) else if (4 : Int32) ≤ x3_5 then some (x2_6, v_locator_7) else jk (fun (x2_11 : Int32) (v_locator_12 : Nat → Int32) => nm (x3_5 + 1 : Int32) fun x3_14 => fX0_spread_L19 v_spotted x1 v_field_powers v_size v_spots v_field_logs F19_8 x3_14 x2_11 v_locator_12) fun j137_13 => if x3_5 = x1 then j137_13 x2_6 v_locator_7 else og (ixb x3_5 4) (ob1 (fX2_power v_field_powers ((v_size - (1 : Int32)) - (v_spots (Int32.toNatClampNeg x3_5)))) fun r_17 => nm (x2_6 + 1 : Int32) fun x2_19 => jk (fun (v_locator_20 : Nat → Int32) => og (ixb 0 5) (ob1 (fX2_times v_field_logs v_field_powers (v_locator_20 (Int32.toNatClampNeg 0)) r_17) fun r_23 => og (ixb 0 5) (nm (upd v_locator_20 (Int32.toNatClampNeg 0) r_23) fun v_locator_26 => j137_13 x2_19 v_locator_26))) fun j116_21 => fX0_spread_L72 j116_21 v_field_logs v_field_powers r_17 FU x2_19 v_locator_7)
def fX0_spread (v_size : Int32) (v_spotted : Int32) (v_locator : Nat → Int32) (v_spots : Nat → Int32) (v_field_logs : Nat → Int32) (v_field_powers : Nat → Int32) (x1 : Int32) : Option (Int32 × (Nat → Int32)) := ob1 (fJ7_fill_53178 v_locator 5 0) fun v_locator_1 => og (ixb 0 5) (nm (upd v_locator_1 (Int32.toNatClampNeg 0) 1) fun v_locator_4 => fX0_spread_L19 v_spotted x1 v_field_powers v_size v_spots v_field_logs FU 0 0 v_locator_4)
set_option maxHeartbeats 4000000 in
set_option maxRecDepth 100000 in
theorem ct_X0_spread (l : Launch) (D : va_G) (cB cI cZ : ClassId) (tw : Nat) (a_this : Nat) (a_field : Nat) (a_sums : Nat) (a_spots : Nat) (a_locator : Nat) (a_rest : Nat) (a_field_powers : Nat) (a_field_logs : Nat) (v_size : Int32) (v_firstCheck : Int32) (v_spotted : Int32) (v_locator : Nat → Int32) (v_spots : Nat → Int32) (v_field_logs : Nat → Int32) (v_field_powers : Nat → Int32) (x1 : Int32) (res : Int32 × (Nat → Int32)) (h : fX0_spread v_size v_spotted v_locator v_spots v_field_logs v_field_powers x1 = some res) : Ctr l yX0_spread cX0_spread 6 (some .int) (rmK 1 23) D (tyL cB cI cZ) tw [.ref a_this, .int x1] (wX0_spread cB cI cZ a_this a_field a_sums a_spots a_locator a_rest a_field_powers a_field_logs v_size v_firstCheck v_spotted v_locator v_spots v_field_logs v_field_powers) (fun res : Int32 × (Nat → Int32) => some (.int res.1)) (fun res : Int32 × (Nat → Int32) => (wX0_spread cB cI cZ a_this a_field a_sums a_spots a_locator a_rest a_field_powers a_field_logs v_size v_firstCheck v_spotted (res.2) v_spots v_field_logs v_field_powers)) res := by
  refine ctr_of RX0 (by decide) rfl (Nat.le_of_ble_eq_true rfl) ?_
  intro p e s m below meth c A C hw ls hl
  have hx := C.1
  have hb := C.2.1
  have hl : lv_has ls 6 [(0, .ref a_this), (1, .int x1)] := hl
  unfold fX0_spread at h
  refine lv_aload_n (pc := 0) hx hb dX0_spread_0 rfl (lv_at hl 0 rfl) ?_
  refine gf_X0_18 (pc := 1) C hw 0 rfl rfl dX0_spread_1 ?_
  refine lv_iconst (pc := 4) (v := 0) hx hb dX0_spread_4 (by decide) ?_
  obtain ⟨v_locator_1, hq_2, h⟩ := ob1_at h
  refine x_callS (pc := 5) (rest := []) (stk := []) (wX0_spread cB cI cZ a_this a_field a_sums a_spots a_locator a_rest a_field_powers a_field_logs v_size v_firstCheck v_spotted v_locator_1 v_spots v_field_logs v_field_powers) C hw (ct_J7_fill_53178 l D cB cI cZ tw a_locator 5 v_locator 0 v_locator_1 hq_2) cal_J7_fill_53178 tw_406 [2] [0, 1, 3, 4, 5] 6 [oX0 a_this a_field v_size v_firstCheck a_sums a_spots v_spotted a_locator a_rest, oX2 a_field a_field_powers a_field_logs, (a_spots, .inl (cI, 4, .inl v_spots)), (a_field_logs, .inl (cI, 256, .inl v_field_logs)), (a_field_powers, .inl (cI, 510, .inl v_field_powers))] rfl rfl rfl rfl rfl rfl rfl rfl rfl rfl rfl (Nat.le_of_ble_eq_true rfl) hl.1 ⟨Nat.le_of_ble_eq_true rfl, Nat.le_of_ble_eq_true rfl⟩ ⟨Nat.zero_le _, Nat.zero_le _⟩ dX0_spread_5 (fun H locs hw => ?_)
  refine lv_aload_n (pc := 8) hx hb dX0_spread_8 rfl (lv_at hl 0 rfl) ?_
  refine gf_X0_18 (pc := 9) C hw 0 rfl rfl dX0_spread_9 ?_
  refine lv_iconst (pc := 12) (v := 0) hx hb dX0_spread_12 (by decide) ?_
  refine lv_iconst (pc := 13) (v := 1) hx hb dX0_spread_13 (by decide) ?_
  obtain ⟨hi_3, h⟩ := og_at h
  obtain ⟨v_locator_4, ev_locator_4⟩ : ∃ y : Nat → Int32, y = upd v_locator_1 (Int32.toNatClampNeg 0) 1 := ⟨_, rfl⟩
  have h := nm_at ev_locator_4 h
  refine x_iast (pc := 14) (wX0_spread cB cI cZ a_this a_field a_sums a_spots a_locator a_rest a_field_powers a_field_logs v_size v_firstCheck v_spotted v_locator_4 v_spots v_field_logs v_field_powers) C hw 2 rfl hi_3 (by rw [ev_locator_4]; rfl) dX0_spread_14 (fun H locs hw => ?_)
  refine lv_iconst (pc := 15) (v := 0) hx hb dX0_spread_15 (by decide) ?_
  refine lv_istore_n (pc := 16) (lv' := [(2, .int 0), (0, .ref a_this), (1, .int x1)]) hx hb dX0_spread_16 rfl hl (by decide) rfl (fun ls hl => ?_)
  refine lv_iconst (pc := 17) (v := 0) hx hb dX0_spread_17 (by decide) ?_
  refine lv_istore_n (pc := 18) (lv' := [(3, .int 0), (2, .int 0), (0, .ref a_this), (1, .int x1)]) hx hb dX0_spread_18 rfl hl (by decide) rfl (fun ls hl => ?_)
  have Lih19_8 : ∀ (F : Nat) (x3_5 : Int32) (x2_6 : Int32) (v_locator_7 : Nat → Int32) (ls : Array Slot) (H : Heap) (locs : List Loc), lv_has ls 6 [(3, .int x3_5), (2, .int x2_6), (0, .ref a_this), (1, .int x1)] → Wd D A s (wX0_spread cB cI cZ a_this a_field a_sums a_spots a_locator a_rest a_field_powers a_field_logs v_size v_firstCheck v_spotted v_locator_7 v_spots v_field_logs v_field_powers) H locs → fX0_spread_L19 v_spotted x1 v_field_powers v_size v_spots v_field_logs F x3_5 x2_6 v_locator_7 = some res → W p l e (rmK 1 23) s m ([.ref a_this, .int x1] : List Value).toArray below meth c H locs 0 0 (MQ below (QG D (tyL cB cI cZ) A (fun res : Int32 × (Nat → Int32) => some (.int res.1)) (fun res : Int32 × (Nat → Int32) => (wX0_spread cB cI cZ a_this a_field a_sums a_spots a_locator a_rest a_field_powers a_field_logs v_size v_firstCheck v_spotted (res.2) v_spots v_field_logs v_field_powers)) res) ([.ref a_this, .int x1] : List Value).toArray s 0 0 A) (F0 m 19 ls []) := by
    intro F
    induction F with
    | zero => intro x3_5 x2_6 v_locator_7 ls H locs hl hw h; rw [fX0_spread_L19.eq_1] at h; cases h
    | succ F19_8 ih19_8 =>
      intro x3_5 x2_6 v_locator_7 ls H locs hl hw h
      rw [fX0_spread_L19.eq_2] at h
      refine lv_iload_n (pc := 19) hx hb dX0_spread_19 rfl (lv_at hl 0 rfl) ?_
      refine lv_aload_n (pc := 20) hx hb dX0_spread_20 rfl (lv_at hl 2 rfl) ?_
      refine gf_X0_39 (pc := 21) C hw 0 rfl rfl dX0_spread_21 ?_
      refine lv_icmp_ge (pc := 24) (tgt := 143) hx hb dX0_spread_24 (by decide) (fun hc_9 => ?_) (fun hc_9 => ?_)
      · have h := ift hc_9 h
        refine lv_iload_n (pc := 143) hx hb dX0_spread_143 rfl (lv_at hl 1 rfl) ?_
        exact x_iret (pc := 144) (v := (x2_6, v_locator_7)) C (Option.some.inj h) rfl hw dX0_spread_144
      · have h := iff' hc_9 h
        refine lv_iload_n (pc := 27) hx hb dX0_spread_27 rfl (lv_at hl 0 rfl) ?_
        refine lv_aload_n (pc := 28) hx hb dX0_spread_28 rfl (lv_at hl 2 rfl) ?_
        refine gf_X0_15 (pc := 29) C hw 0 rfl rfl dX0_spread_29 ?_
        refine x_ilen (pc := 32) 4 C hw 3 1 rfl rfl (by decide) dX0_spread_32 ?_
        refine lv_icmp_ge (pc := 33) (tgt := 143) hx hb dX0_spread_33 (by decide) (fun hc_10 => ?_) (fun hc_10 => ?_)
        · have h := ift hc_10 h
          refine lv_iload_n (pc := 143) hx hb dX0_spread_143 rfl (lv_at hl 1 rfl) ?_
          exact x_iret (pc := 144) (v := (x2_6, v_locator_7)) C (Option.some.inj h) rfl hw dX0_spread_144
        · have h := iff' hc_10 h
          refine lv_iload_n (pc := 36) hx hb dX0_spread_36 rfl (lv_at hl 0 rfl) ?_
          refine lv_iload_n (pc := 37) hx hb dX0_spread_37 rfl (lv_at hl 3 rfl) ?_
          obtain ⟨j137_13, ej137_13, h⟩ := jk_at h
          have J137_13 : ∀ (x2_11 : Int32) (v_locator_12 : Nat → Int32) (ls : Array Slot) (H : Heap) (locs : List Loc), lv_has ls 6 [(3, .int x3_5), (2, .int x2_11), (0, .ref a_this), (1, .int x1)] → Wd D A s (wX0_spread cB cI cZ a_this a_field a_sums a_spots a_locator a_rest a_field_powers a_field_logs v_size v_firstCheck v_spotted v_locator_12 v_spots v_field_logs v_field_powers) H locs → j137_13 x2_11 v_locator_12 = some res → W p l e (rmK 1 23) s m ([.ref a_this, .int x1] : List Value).toArray below meth c H locs 0 0 (MQ below (QG D (tyL cB cI cZ) A (fun res : Int32 × (Nat → Int32) => some (.int res.1)) (fun res : Int32 × (Nat → Int32) => (wX0_spread cB cI cZ a_this a_field a_sums a_spots a_locator a_rest a_field_powers a_field_logs v_size v_firstCheck v_spotted (res.2) v_spots v_field_logs v_field_powers)) res) ([.ref a_this, .int x1] : List Value).toArray s 0 0 A) (F0 m 137 ls []) := by
            intro x2_11 v_locator_12 ls H locs hl hw h
            have h := k2_at ej137_13 h
            obtain ⟨x3_14, ex3_14⟩ : ∃ y : Int32, y = x3_5 + 1 := ⟨_, rfl⟩
            have h := nm_at ex3_14 h
            refine lv_iinc (pc := 137) (v := x3_14) (lv' := [(3, .int x3_14), (2, .int x2_11), (0, .ref a_this), (1, .int x1)]) hx hb dX0_spread_137 hl (k := 0) rfl (by rw [ex3_14]; rfl) (by decide) rfl (fun ls hl => ?_)
            refine lv_goto (pc := 140) (tgt := 19) hx hb dX0_spread_140 (by decide) ?_
            exact ih19_8 x3_14 x2_11 v_locator_12 ls _ _ (lv_sub hl [0, 1, 2, 3] rfl) hw h
          refine lv_icmp_ne (pc := 38) (tgt := 44) hx hb dX0_spread_38 (by decide) (fun hc_15 => ?_) (fun hc_15 => ?_)
          · have h := iff' hc_15 h
            refine lv_aload_n (pc := 44) hx hb dX0_spread_44 rfl (lv_at hl 2 rfl) ?_
            refine gf_X0_24 (pc := 45) C hw 0 rfl rfl dX0_spread_45 ?_
            refine lv_aload_n (pc := 48) hx hb dX0_spread_48 rfl (lv_at hl 2 rfl) ?_
            refine gf_X0_28 (pc := 49) C hw 0 rfl rfl dX0_spread_49 ?_
            refine lv_iconst (pc := 52) (v := 1) hx hb dX0_spread_52 (by decide) ?_
            refine lv_isub (pc := 53) hx hb dX0_spread_53 ?_
            refine lv_aload_n (pc := 54) hx hb dX0_spread_54 rfl (lv_at hl 2 rfl) ?_
            refine gf_X0_15 (pc := 55) C hw 0 rfl rfl dX0_spread_55 ?_
            refine lv_iload_n (pc := 58) hx hb dX0_spread_58 rfl (lv_at hl 0 rfl) ?_
            obtain ⟨hi_16, h⟩ := og_at h
            refine x_iald (pc := 59) C hw 3 rfl hi_16 dX0_spread_59 ?_
            refine lv_isub (pc := 60) hx hb dX0_spread_60 ?_
            obtain ⟨r_17, hq_18, h⟩ := ob1_at h
            refine x_callV (pc := 61) (rest := []) (stk := [.int r_17]) (wX0_spread cB cI cZ a_this a_field a_sums a_spots a_locator a_rest a_field_powers a_field_logs v_size v_firstCheck v_spotted v_locator_7 v_spots v_field_logs v_field_powers) C hw (ct_X2_power l D cB cI cZ tw a_field a_field_powers a_field_logs v_field_powers ((v_size - (1 : Int32)) - (v_spots (Int32.toNatClampNeg x3_5))) r_17 hq_18) cal_X2_power tw_407 (q0 := 1) rfl rfl [1, 5] [0, 2, 3, 4] 6 [oX0 a_this a_field v_size v_firstCheck a_sums a_spots v_spotted a_locator a_rest, (a_locator, .inl (cI, 5, .inl v_locator_7)), (a_spots, .inl (cI, 4, .inl v_spots)), (a_field_logs, .inl (cI, 256, .inl v_field_logs))] rfl rfl rfl rfl rfl rfl rfl rfl rfl rfl rfl (Nat.le_of_ble_eq_true rfl) hl.1 ⟨Nat.le_of_ble_eq_true rfl, Nat.le_of_ble_eq_true rfl⟩ ⟨Nat.zero_le _, Nat.zero_le _⟩ dX0_spread_61 (fun H locs hw => ?_)
            refine lv_istore (pc := 64) (lv' := [(4, .int r_17), (3, .int x3_5), (2, .int x2_6), (0, .ref a_this), (1, .int x1)]) hx hb dX0_spread_64 hl (by decide) rfl (fun ls hl => ?_)
            obtain ⟨x2_19, ex2_19⟩ : ∃ y : Int32, y = x2_6 + 1 := ⟨_, rfl⟩
            have h := nm_at ex2_19 h
            refine lv_iinc (pc := 66) (v := x2_19) (lv' := [(2, .int x2_19), (4, .int r_17), (3, .int x3_5), (0, .ref a_this), (1, .int x1)]) hx hb dX0_spread_66 hl (k := 2) rfl (by rw [ex2_19]; rfl) (by decide) rfl (fun ls hl => ?_)
            refine lv_iload_n (pc := 69) hx hb dX0_spread_69 rfl (lv_at hl 0 rfl) ?_
            refine lv_istore (pc := 70) (lv' := [(5, .int x2_19), (2, .int x2_19), (4, .int r_17), (3, .int x3_5), (0, .ref a_this), (1, .int x1)]) hx hb dX0_spread_70 hl (by decide) rfl (fun ls hl => ?_)
            obtain ⟨j116_21, ej116_21, h⟩ := jk_at h
            have J116_21 : ∀ (v_locator_20 : Nat → Int32) (ls : Array Slot) (H : Heap) (locs : List Loc), lv_has ls 6 [(2, .int x2_19), (4, .int r_17), (3, .int x3_5), (0, .ref a_this), (1, .int x1)] → Wd D A s (wX0_spread cB cI cZ a_this a_field a_sums a_spots a_locator a_rest a_field_powers a_field_logs v_size v_firstCheck v_spotted v_locator_20 v_spots v_field_logs v_field_powers) H locs → j116_21 v_locator_20 = some res → W p l e (rmK 1 23) s m ([.ref a_this, .int x1] : List Value).toArray below meth c H locs 0 0 (MQ below (QG D (tyL cB cI cZ) A (fun res : Int32 × (Nat → Int32) => some (.int res.1)) (fun res : Int32 × (Nat → Int32) => (wX0_spread cB cI cZ a_this a_field a_sums a_spots a_locator a_rest a_field_powers a_field_logs v_size v_firstCheck v_spotted (res.2) v_spots v_field_logs v_field_powers)) res) ([.ref a_this, .int x1] : List Value).toArray s 0 0 A) (F0 m 116 ls []) := by
              intro v_locator_20 ls H locs hl hw h
              have h := k1_at ej116_21 h
              refine lv_aload_n (pc := 116) hx hb dX0_spread_116 rfl (lv_at hl 3 rfl) ?_
              refine gf_X0_18 (pc := 117) C hw 0 rfl rfl dX0_spread_117 ?_
              refine lv_iconst (pc := 120) (v := 0) hx hb dX0_spread_120 (by decide) ?_
              refine lv_aload_n (pc := 121) hx hb dX0_spread_121 rfl (lv_at hl 3 rfl) ?_
              refine gf_X0_24 (pc := 122) C hw 0 rfl rfl dX0_spread_122 ?_
              refine lv_aload_n (pc := 125) hx hb dX0_spread_125 rfl (lv_at hl 3 rfl) ?_
              refine gf_X0_18 (pc := 126) C hw 0 rfl rfl dX0_spread_126 ?_
              refine lv_iconst (pc := 129) (v := 0) hx hb dX0_spread_129 (by decide) ?_
              obtain ⟨hi_22, h⟩ := og_at h
              refine x_iald (pc := 130) C hw 2 rfl hi_22 dX0_spread_130 ?_
              refine lv_iload (pc := 131) hx hb dX0_spread_131 (lv_at hl 1 rfl) ?_
              obtain ⟨r_23, hq_24, h⟩ := ob1_at h
              refine x_callV (pc := 133) (rest := [.int 0, .ref a_locator]) (stk := [.int r_23, .int 0, .ref a_locator]) (wX0_spread cB cI cZ a_this a_field a_sums a_spots a_locator a_rest a_field_powers a_field_logs v_size v_firstCheck v_spotted v_locator_20 v_spots v_field_logs v_field_powers) C hw (ct_X2_times l D cB cI cZ tw a_field a_field_powers a_field_logs v_field_logs v_field_powers (v_locator_20 (Int32.toNatClampNeg 0)) r_17 r_23 hq_24) cal_X2_times tw_411 (q0 := 1) rfl rfl [1, 4, 5] [0, 2, 3] 6 [oX0 a_this a_field v_size v_firstCheck a_sums a_spots v_spotted a_locator a_rest, (a_locator, .inl (cI, 5, .inl v_locator_20)), (a_spots, .inl (cI, 4, .inl v_spots))] rfl rfl rfl rfl rfl rfl rfl rfl rfl rfl rfl (Nat.le_of_ble_eq_true rfl) hl.1 ⟨Nat.le_of_ble_eq_true rfl, Nat.le_of_ble_eq_true rfl⟩ ⟨Nat.zero_le _, Nat.zero_le _⟩ dX0_spread_133 (fun H locs hw => ?_)
              obtain ⟨hi_25, h⟩ := og_at h
              obtain ⟨v_locator_26, ev_locator_26⟩ : ∃ y : Nat → Int32, y = upd v_locator_20 (Int32.toNatClampNeg 0) r_23 := ⟨_, rfl⟩
              have h := nm_at ev_locator_26 h
              refine x_iast (pc := 136) (wX0_spread cB cI cZ a_this a_field a_sums a_spots a_locator a_rest a_field_powers a_field_logs v_size v_firstCheck v_spotted v_locator_26 v_spots v_field_logs v_field_powers) C hw 2 rfl hi_25 (by rw [ev_locator_26]; rfl) dX0_spread_136 (fun H locs hw => ?_)
              exact J137_13 x2_19 v_locator_26 ls _ _ (lv_sub hl [2, 0, 3, 4] rfl) hw h
            have Lih72_29 : ∀ (F : Nat) (x5_27 : Int32) (v_locator_28 : Nat → Int32) (ls : Array Slot) (H : Heap) (locs : List Loc), lv_has ls 6 [(5, .int x5_27), (2, .int x2_19), (4, .int r_17), (3, .int x3_5), (0, .ref a_this), (1, .int x1)] → Wd D A s (wX0_spread cB cI cZ a_this a_field a_sums a_spots a_locator a_rest a_field_powers a_field_logs v_size v_firstCheck v_spotted v_locator_28 v_spots v_field_logs v_field_powers) H locs → fX0_spread_L72 j116_21 v_field_logs v_field_powers r_17 F x5_27 v_locator_28 = some res → W p l e (rmK 1 23) s m ([.ref a_this, .int x1] : List Value).toArray below meth c H locs 0 0 (MQ below (QG D (tyL cB cI cZ) A (fun res : Int32 × (Nat → Int32) => some (.int res.1)) (fun res : Int32 × (Nat → Int32) => (wX0_spread cB cI cZ a_this a_field a_sums a_spots a_locator a_rest a_field_powers a_field_logs v_size v_firstCheck v_spotted (res.2) v_spots v_field_logs v_field_powers)) res) ([.ref a_this, .int x1] : List Value).toArray s 0 0 A) (F0 m 72 ls []) := by
              intro F
              induction F with
              | zero => intro x5_27 v_locator_28 ls H locs hl hw h; rw [fX0_spread_L72.eq_1] at h; cases h
              | succ F72_29 ih72_29 =>
                intro x5_27 v_locator_28 ls H locs hl hw h
                rw [fX0_spread_L72.eq_2] at h
                refine lv_iload (pc := 72) hx hb dX0_spread_72 (lv_at hl 0 rfl) ?_
                refine lv_if_le (pc := 74) (tgt := 116) hx hb dX0_spread_74 (by decide) (fun hc_30 => ?_) (fun hc_30 => ?_)
                · have h := ift hc_30 h
                  exact J116_21 v_locator_28 ls _ _ (lv_sub hl [1, 2, 3, 4, 5] rfl) hw h
                · have h := iff' hc_30 h
                  refine lv_aload_n (pc := 77) hx hb dX0_spread_77 rfl (lv_at hl 4 rfl) ?_
                  refine gf_X0_18 (pc := 78) C hw 0 rfl rfl dX0_spread_78 ?_
                  refine lv_iload (pc := 81) hx hb dX0_spread_81 (lv_at hl 0 rfl) ?_
                  refine lv_aload_n (pc := 83) hx hb dX0_spread_83 rfl (lv_at hl 4 rfl) ?_
                  refine gf_X0_18 (pc := 84) C hw 0 rfl rfl dX0_spread_84 ?_
                  refine lv_iload (pc := 87) hx hb dX0_spread_87 (lv_at hl 0 rfl) ?_
                  refine lv_iconst (pc := 89) (v := 1) hx hb dX0_spread_89 (by decide) ?_
                  refine lv_isub (pc := 90) hx hb dX0_spread_90 ?_
                  obtain ⟨hi_31, h⟩ := og_at h
                  refine x_iald (pc := 91) C hw 2 rfl hi_31 dX0_spread_91 ?_
                  refine lv_aload_n (pc := 92) hx hb dX0_spread_92 rfl (lv_at hl 4 rfl) ?_
                  refine gf_X0_24 (pc := 93) C hw 0 rfl rfl dX0_spread_93 ?_
                  refine lv_aload_n (pc := 96) hx hb dX0_spread_96 rfl (lv_at hl 4 rfl) ?_
                  refine gf_X0_18 (pc := 97) C hw 0 rfl rfl dX0_spread_97 ?_
                  refine lv_iload (pc := 100) hx hb dX0_spread_100 (lv_at hl 0 rfl) ?_
                  obtain ⟨hi_32, h⟩ := og_at h
                  refine x_iald (pc := 102) C hw 2 rfl hi_32 dX0_spread_102 ?_
                  refine lv_iload (pc := 103) hx hb dX0_spread_103 (lv_at hl 2 rfl) ?_
                  obtain ⟨r_33, hq_34, h⟩ := ob1_at h
                  refine x_callV (pc := 105) (rest := [.int (v_locator_28 (Int32.toNatClampNeg (x5_27 - (1 : Int32)))), .int x5_27, .ref a_locator]) (stk := [.int r_33, .int (v_locator_28 (Int32.toNatClampNeg (x5_27 - (1 : Int32)))), .int x5_27, .ref a_locator]) (wX0_spread cB cI cZ a_this a_field a_sums a_spots a_locator a_rest a_field_powers a_field_logs v_size v_firstCheck v_spotted v_locator_28 v_spots v_field_logs v_field_powers) C hw (ct_X2_times l D cB cI cZ tw a_field a_field_powers a_field_logs v_field_logs v_field_powers (v_locator_28 (Int32.toNatClampNeg x5_27)) r_17 r_33 hq_34) cal_X2_times tw_411 (q0 := 1) rfl rfl [1, 4, 5] [0, 2, 3] 6 [oX0 a_this a_field v_size v_firstCheck a_sums a_spots v_spotted a_locator a_rest, (a_locator, .inl (cI, 5, .inl v_locator_28)), (a_spots, .inl (cI, 4, .inl v_spots))] rfl rfl rfl rfl rfl rfl rfl rfl rfl rfl rfl (Nat.le_of_ble_eq_true rfl) hl.1 ⟨Nat.le_of_ble_eq_true rfl, Nat.le_of_ble_eq_true rfl⟩ ⟨Nat.zero_le _, Nat.zero_le _⟩ dX0_spread_105 (fun H locs hw => ?_)
                  refine lv_ixor (pc := 108) hx hb dX0_spread_108 ?_
                  obtain ⟨hi_35, h⟩ := og_at h
                  obtain ⟨v_locator_36, ev_locator_36⟩ : ∃ y : Nat → Int32, y = upd v_locator_28 (Int32.toNatClampNeg x5_27) ((v_locator_28 (Int32.toNatClampNeg (x5_27 - (1 : Int32)))) ^^^ r_33) := ⟨_, rfl⟩
                  have h := nm_at ev_locator_36 h
                  refine x_iast (pc := 109) (wX0_spread cB cI cZ a_this a_field a_sums a_spots a_locator a_rest a_field_powers a_field_logs v_size v_firstCheck v_spotted v_locator_36 v_spots v_field_logs v_field_powers) C hw 2 rfl hi_35 (by rw [ev_locator_36]; rfl) dX0_spread_109 (fun H locs hw => ?_)
                  obtain ⟨x5_37, ex5_37⟩ : ∃ y : Int32, y = x5_27 + (-1) := ⟨_, rfl⟩
                  have h := nm_at ex5_37 h
                  refine lv_iinc (pc := 110) (v := x5_37) (lv' := [(5, .int x5_37), (2, .int x2_19), (4, .int r_17), (3, .int x3_5), (0, .ref a_this), (1, .int x1)]) hx hb dX0_spread_110 hl (k := 0) rfl (by rw [ex5_37]; rfl) (by decide) rfl (fun ls hl => ?_)
                  refine lv_goto (pc := 113) (tgt := 72) hx hb dX0_spread_113 (by decide) ?_
                  exact ih72_29 x5_37 v_locator_36 ls _ _ (lv_sub hl [0, 1, 2, 3, 4, 5] rfl) hw h
            exact Lih72_29 FU x2_19 v_locator_7 ls _ _ (lv_sub hl [0, 1, 2, 3, 4, 5] rfl) hw h
          · have h := ift hc_15 h
            refine lv_goto (pc := 41) (tgt := 137) hx hb dX0_spread_41 (by decide) ?_
            exact J137_13 x2_6 v_locator_7 ls _ _ (lv_sub hl [0, 1, 2, 3] rfl) hw h
  exact Lih19_8 FU 0 0 v_locator_4 ls _ _ (lv_sub hl [0, 1, 2, 3] rfl) hw h
def wX0_without (cB cI cZ : ClassId) (a_this : Nat) (a_field : Nat) (a_sums : Nat) (a_spots : Nat) (a_locator : Nat) (a_rest : Nat) (a_field_powers : Nat) (a_field_logs : Nat) (v_size : Int32) (v_firstCheck : Int32) (v_spotted : Int32) (v_locator : Nat → Int32) (v_sums : Nat → Int32) (v_field_logs : Nat → Int32) (v_field_powers : Nat → Int32) : va_W := [oX0 a_this a_field v_size v_firstCheck a_sums a_spots v_spotted a_locator a_rest, oX2 a_field a_field_powers a_field_logs, (a_locator, .inl (cI, 5, .inl v_locator)), (a_sums, .inl (cI, 4, .inl v_sums)), (a_field_logs, .inl (cI, 256, .inl v_field_logs)), (a_field_powers, .inl (cI, 510, .inl v_field_powers))]
def fX0_without_L5 (x1 : Int32) (x2 : Int32) (v_field_logs : Nat → Int32) (v_field_powers : Nat → Int32) (v_locator : Nat → Int32) (v_sums : Nat → Int32) : Nat → Int32 → Int32 → Option (Int32)
  | 0, _, _ => none
  | F5_3 + 1, x4_1, x3_2 => if x1 < x4_1 then some x3_2 else if (4 : Int32) ≤ (x2 + x4_1) then some x3_2 else og (ixb x4_1 5) (og (ixb (x2 + x4_1) 4) (ob1 (fX2_times v_field_logs v_field_powers (v_locator (Int32.toNatClampNeg x4_1)) (v_sums (Int32.toNatClampNeg (x2 + x4_1)))) fun r_8 => nm ((x3_2 ^^^ r_8) : Int32) fun x3_10 => nm (x4_1 + 1 : Int32) fun x4_11 => fX0_without_L5 x1 x2 v_field_logs v_field_powers v_locator v_sums F5_3 x4_11 x3_10))
def fX0_without (v_locator : Nat → Int32) (v_sums : Nat → Int32) (v_field_logs : Nat → Int32) (v_field_powers : Nat → Int32) (x1 : Int32) (x2 : Int32) : Option (Int32) := fX0_without_L5 x1 x2 v_field_logs v_field_powers v_locator v_sums FU 0 0
set_option maxHeartbeats 4000000 in
set_option maxRecDepth 100000 in
theorem ct_X0_without (l : Launch) (D : va_G) (cB cI cZ : ClassId) (tw : Nat) (a_this : Nat) (a_field : Nat) (a_sums : Nat) (a_spots : Nat) (a_locator : Nat) (a_rest : Nat) (a_field_powers : Nat) (a_field_logs : Nat) (v_size : Int32) (v_firstCheck : Int32) (v_spotted : Int32) (v_locator : Nat → Int32) (v_sums : Nat → Int32) (v_field_logs : Nat → Int32) (v_field_powers : Nat → Int32) (x1 : Int32) (x2 : Int32) (res : Int32) (h : fX0_without v_locator v_sums v_field_logs v_field_powers x1 x2 = some res) : Ctr l yX0_without cX0_without 5 (some .int) (rmK 1 22) D (tyL cB cI cZ) tw [.ref a_this, .int x1, .int x2] (wX0_without cB cI cZ a_this a_field a_sums a_spots a_locator a_rest a_field_powers a_field_logs v_size v_firstCheck v_spotted v_locator v_sums v_field_logs v_field_powers) (fun res : Int32 => some (.int res)) (fun res : Int32 => (wX0_without cB cI cZ a_this a_field a_sums a_spots a_locator a_rest a_field_powers a_field_logs v_size v_firstCheck v_spotted v_locator v_sums v_field_logs v_field_powers)) res := by
  refine ctr_of RX0 (by decide) rfl (Nat.le_of_ble_eq_true rfl) ?_
  intro p e s m below meth c A C hw ls hl
  have hx := C.1
  have hb := C.2.1
  have hl : lv_has ls 5 [(0, .ref a_this), (1, .int x1), (2, .int x2)] := hl
  unfold fX0_without at h
  refine lv_iconst (pc := 0) (v := 0) hx hb dX0_without_0 (by decide) ?_
  refine lv_istore_n (pc := 1) (lv' := [(3, .int 0), (0, .ref a_this), (1, .int x1), (2, .int x2)]) hx hb dX0_without_1 rfl hl (by decide) rfl (fun ls hl => ?_)
  refine lv_iconst (pc := 2) (v := 0) hx hb dX0_without_2 (by decide) ?_
  refine lv_istore (pc := 3) (lv' := [(4, .int 0), (3, .int 0), (0, .ref a_this), (1, .int x1), (2, .int x2)]) hx hb dX0_without_3 hl (by decide) rfl (fun ls hl => ?_)
  have Lih5_3 : ∀ (F : Nat) (x4_1 : Int32) (x3_2 : Int32) (ls : Array Slot) (H : Heap) (locs : List Loc), lv_has ls 5 [(4, .int x4_1), (3, .int x3_2), (0, .ref a_this), (1, .int x1), (2, .int x2)] → Wd D A s (wX0_without cB cI cZ a_this a_field a_sums a_spots a_locator a_rest a_field_powers a_field_logs v_size v_firstCheck v_spotted v_locator v_sums v_field_logs v_field_powers) H locs → fX0_without_L5 x1 x2 v_field_logs v_field_powers v_locator v_sums F x4_1 x3_2 = some res → W p l e (rmK 1 22) s m ([.ref a_this, .int x1, .int x2] : List Value).toArray below meth c H locs 0 0 (MQ below (QG D (tyL cB cI cZ) A (fun res : Int32 => some (.int res)) (fun res : Int32 => (wX0_without cB cI cZ a_this a_field a_sums a_spots a_locator a_rest a_field_powers a_field_logs v_size v_firstCheck v_spotted v_locator v_sums v_field_logs v_field_powers)) res) ([.ref a_this, .int x1, .int x2] : List Value).toArray s 0 0 A) (F0 m 5 ls []) := by
    intro F
    induction F with
    | zero => intro x4_1 x3_2 ls H locs hl hw h; rw [fX0_without_L5.eq_1] at h; cases h
    | succ F5_3 ih5_3 =>
      intro x4_1 x3_2 ls H locs hl hw h
      rw [fX0_without_L5.eq_2] at h
      refine lv_iload (pc := 5) hx hb dX0_without_5 (lv_at hl 0 rfl) ?_
      refine lv_iload_n (pc := 7) hx hb dX0_without_7 rfl (lv_at hl 3 rfl) ?_
      refine lv_icmp_gt (pc := 8) (tgt := 51) hx hb dX0_without_8 (by decide) (fun hc_4 => ?_) (fun hc_4 => ?_)
      · have h := ift hc_4 h
        refine lv_iload_n (pc := 51) hx hb dX0_without_51 rfl (lv_at hl 1 rfl) ?_
        exact x_iret (pc := 52) (v := x3_2) C (Option.some.inj h) rfl hw dX0_without_52
      · have h := iff' hc_4 h
        refine lv_iload_n (pc := 11) hx hb dX0_without_11 rfl (lv_at hl 4 rfl) ?_
        refine lv_iload (pc := 12) hx hb dX0_without_12 (lv_at hl 0 rfl) ?_
        refine lv_iadd (pc := 14) hx hb dX0_without_14 ?_
        refine lv_iconst (pc := 15) (v := 4) hx hb dX0_without_15 (by decide) ?_
        refine lv_icmp_ge (pc := 16) (tgt := 51) hx hb dX0_without_16 (by decide) (fun hc_5 => ?_) (fun hc_5 => ?_)
        · have h := ift hc_5 h
          refine lv_iload_n (pc := 51) hx hb dX0_without_51 rfl (lv_at hl 1 rfl) ?_
          exact x_iret (pc := 52) (v := x3_2) C (Option.some.inj h) rfl hw dX0_without_52
        · have h := iff' hc_5 h
          refine lv_iload_n (pc := 19) hx hb dX0_without_19 rfl (lv_at hl 1 rfl) ?_
          refine lv_aload_n (pc := 20) hx hb dX0_without_20 rfl (lv_at hl 2 rfl) ?_
          refine gf_X0_24 (pc := 21) C hw 0 rfl rfl dX0_without_21 ?_
          refine lv_aload_n (pc := 24) hx hb dX0_without_24 rfl (lv_at hl 2 rfl) ?_
          refine gf_X0_18 (pc := 25) C hw 0 rfl rfl dX0_without_25 ?_
          refine lv_iload (pc := 28) hx hb dX0_without_28 (lv_at hl 0 rfl) ?_
          obtain ⟨hi_6, h⟩ := og_at h
          refine x_iald (pc := 30) C hw 2 rfl hi_6 dX0_without_30 ?_
          refine lv_aload_n (pc := 31) hx hb dX0_without_31 rfl (lv_at hl 2 rfl) ?_
          refine gf_X0_9 (pc := 32) C hw 0 rfl rfl dX0_without_32 ?_
          refine lv_iload_n (pc := 35) hx hb dX0_without_35 rfl (lv_at hl 4 rfl) ?_
          refine lv_iload (pc := 36) hx hb dX0_without_36 (lv_at hl 0 rfl) ?_
          refine lv_iadd (pc := 38) hx hb dX0_without_38 ?_
          obtain ⟨hi_7, h⟩ := og_at h
          refine x_iald (pc := 39) C hw 3 rfl hi_7 dX0_without_39 ?_
          obtain ⟨r_8, hq_9, h⟩ := ob1_at h
          refine x_callV (pc := 40) (rest := [.int x3_2]) (stk := [.int r_8, .int x3_2]) (wX0_without cB cI cZ a_this a_field a_sums a_spots a_locator a_rest a_field_powers a_field_logs v_size v_firstCheck v_spotted v_locator v_sums v_field_logs v_field_powers) C hw (ct_X2_times l D cB cI cZ tw a_field a_field_powers a_field_logs v_field_logs v_field_powers (v_locator (Int32.toNatClampNeg x4_1)) (v_sums (Int32.toNatClampNeg (x2 + x4_1))) r_8 hq_9) cal_X2_times tw_411 (q0 := 1) rfl rfl [1, 4, 5] [0, 2, 3] 6 [oX0 a_this a_field v_size v_firstCheck a_sums a_spots v_spotted a_locator a_rest, (a_locator, .inl (cI, 5, .inl v_locator)), (a_sums, .inl (cI, 4, .inl v_sums))] rfl rfl rfl rfl rfl rfl rfl rfl rfl rfl rfl (Nat.le_of_ble_eq_true rfl) hl.1 ⟨Nat.le_of_ble_eq_true rfl, Nat.le_of_ble_eq_true rfl⟩ ⟨Nat.zero_le _, Nat.zero_le _⟩ dX0_without_40 (fun H locs hw => ?_)
          refine lv_ixor (pc := 43) hx hb dX0_without_43 ?_
          refine lv_topi (pc := 44) (fun x3_10 ex3_10 => ?_)
          have h := nm_at ex3_10 h
          refine lv_istore_n (pc := 44) (lv' := [(3, .int x3_10), (4, .int x4_1), (0, .ref a_this), (1, .int x1), (2, .int x2)]) hx hb dX0_without_44 rfl hl (by decide) rfl (fun ls hl => ?_)
          obtain ⟨x4_11, ex4_11⟩ : ∃ y : Int32, y = x4_1 + 1 := ⟨_, rfl⟩
          have h := nm_at ex4_11 h
          refine lv_iinc (pc := 45) (v := x4_11) (lv' := [(4, .int x4_11), (3, .int x3_10), (0, .ref a_this), (1, .int x1), (2, .int x2)]) hx hb dX0_without_45 hl (k := 1) rfl (by rw [ex4_11]; rfl) (by decide) rfl (fun ls hl => ?_)
          refine lv_goto (pc := 48) (tgt := 5) hx hb dX0_without_48 (by decide) ?_
          exact ih5_3 x4_11 x3_10 ls _ _ (lv_sub hl [0, 1, 2, 3, 4] rfl) hw h
  exact Lih5_3 FU 0 0 ls _ _ (lv_sub hl [0, 1, 2, 3, 4] rfl) hw h
def wX0_correct (cB cI cZ : ClassId) (a_this : Nat) (a_field : Nat) (a_sums : Nat) (a_spots : Nat) (a_locator : Nat) (a_rest : Nat) (a_field_powers : Nat) (a_field_logs : Nat) (a_arg1 : Nat) (n_arg1 : Nat) (v_size : Int32) (v_firstCheck : Int32) (v_spotted : Int32) (v_locator : Nat → Int32) (v_spots : Nat → Int32) (v_sums : Nat → Int32) (v_field_logs : Nat → Int32) (v_field_powers : Nat → Int32) (v_arg1 : Nat → Int32) : va_W := [oX0 a_this a_field v_size v_firstCheck a_sums a_spots v_spotted a_locator a_rest, oX2 a_field a_field_powers a_field_logs, (a_locator, .inl (cI, 5, .inl v_locator)), (a_spots, .inl (cI, 4, .inl v_spots)), (a_sums, .inl (cI, 4, .inl v_sums)), (a_field_logs, .inl (cI, 256, .inl v_field_logs)), (a_field_powers, .inl (cI, 510, .inl v_field_powers)), (a_arg1, .inl (cB, n_arg1, .inl v_arg1))]
def fX0_correct_L65 (j97_17 : Int32 → Option ((Nat → Int32) × (Nat → Int32))) (v_field_logs : Nat → Int32) (v_field_powers : Nat → Int32) (r_14 : Int32) (v_locator_11 : Nat → Int32) : Nat → Int32 → Int32 → Option ((Nat → Int32) × (Nat → Int32))
  | 0, _, _ => none
  | F65_29 + 1, x7_27, x6_28 => if x7_27 < 0 then j97_17 x6_28 else ob1 (fX2_times v_field_logs v_field_powers x6_28 r_14) fun r_31 => og (ixb x7_27 5) (nm ((r_31 ^^^ (v_locator_11 (Int32.toNatClampNeg x7_27))) : Int32) fun x6_34 => nm (x7_27 + (-1) : Int32) fun x7_35 => fX0_correct_L65 j97_17 v_field_logs v_field_powers r_14 v_locator_11 F65_29 x7_35 x6_34)
def fX0_correct_L12 (v_spotted : Int32) (v_size : Int32) (v_spots : Nat → Int32) (v_field_logs : Nat → Int32) (v_field_powers : Nat → Int32) (x2 : Int32) (n_arg1 : Nat) (v_sums : Nat → Int32) : Nat → Int32 → (Nat → Int32) → (Nat → Int32) → Option ((Nat → Int32) × (Nat → Int32))
  | 0, _, _, _ => none
  | F12_7 + 1, x3_4, v_locator_5, v_arg1_6 => if v_spotted ≤ x3_4 then some (v_locator_5, v_arg1_6) else if (4 : Int32) ≤ x3_4 then some (v_locator_5, v_arg1_6) else ob2 (fX0_spread v_size v_spotted v_locator_5 v_spots v_field_logs v_field_powers x3_4) fun r_10 v_locator_11 => og (ixb x3_4 4) (ob1 (fX2_power v_field_powers ((v_size - (1 : Int32)) - (v_spots (Int32.toNatClampNeg x3_4)))) fun r_14 => jk (fun (x6_16 : Int32) => og (ixb x3_4 4) (og (ixb (x2 + (v_spots (Int32.toNatClampNeg x3_4))) n_arg1) (ob1 (fX0_without v_locator_11 v_sums v_field_logs v_field_powers r_10 0) fun r_20 => ob1 (fX2_over v_field_logs v_field_powers r_20 x6_16) fun r_22 => og (ixb (x2 + (v_spots (Int32.toNatClampNeg x3_4))) n_arg1) (nm (upd v_arg1_6 (Int32.toNatClampNeg (x2 + (v_spots (Int32.toNatClampNeg x3_4)))) (vp_nar .byte (Int8.toInt32 (Int32.toInt8 ((v_arg1_6 (Int32.toNatClampNeg (x2 + (v_spots (Int32.toNatClampNeg x3_4))))) ^^^ (Int8.toInt32 (Int32.toInt8 r_22))))))) fun v_arg1_25 => nm (x3_4 + 1 : Int32) fun x3_26 => fX0_correct_L12 v_spotted v_size v_spots v_field_logs v_field_powers x2 n_arg1 v_sums F12_7 x3_26 v_locator_11 v_arg1_25)))) fun j97_17 => fX0_correct_L65 j97_17 v_field_logs v_field_powers r_14 v_locator_11 FU r_10 0)
def fX0_correct (v_size : Int32) (v_spotted : Int32) (v_locator : Nat → Int32) (v_spots : Nat → Int32) (v_sums : Nat → Int32) (v_field_logs : Nat → Int32) (v_field_powers : Nat → Int32) (v_arg1 : Nat → Int32) (n_arg1 : Nat) (x2 : Int32) : Option ((Nat → Int32) × (Nat → Int32)) := nt1 (fX0_fits v_size n_arg1 x2) fun r_1 => if r_1 = 0 then some (v_locator, v_arg1) else fX0_correct_L12 v_spotted v_size v_spots v_field_logs v_field_powers x2 n_arg1 v_sums FU 0 v_locator v_arg1
set_option maxHeartbeats 4000000 in
set_option maxRecDepth 100000 in
theorem ct_X0_correct (l : Launch) (D : va_G) (cB cI cZ : ClassId) (tw : Nat) (a_this : Nat) (a_field : Nat) (a_sums : Nat) (a_spots : Nat) (a_locator : Nat) (a_rest : Nat) (a_field_powers : Nat) (a_field_logs : Nat) (a_arg1 : Nat) (n_arg1 : Nat) (v_size : Int32) (v_firstCheck : Int32) (v_spotted : Int32) (v_locator : Nat → Int32) (v_spots : Nat → Int32) (v_sums : Nat → Int32) (v_field_logs : Nat → Int32) (v_field_powers : Nat → Int32) (v_arg1 : Nat → Int32) (x2 : Int32) (res : (Nat → Int32) × (Nat → Int32)) (h : fX0_correct v_size v_spotted v_locator v_spots v_sums v_field_logs v_field_powers v_arg1 n_arg1 x2 = some res) : Ctr l yX0_correct cX0_correct 8 none (rmK 2 48) D (tyL cB cI cZ) tw [.ref a_this, .ref a_arg1, .int x2] (wX0_correct cB cI cZ a_this a_field a_sums a_spots a_locator a_rest a_field_powers a_field_logs a_arg1 n_arg1 v_size v_firstCheck v_spotted v_locator v_spots v_sums v_field_logs v_field_powers v_arg1) (fun _ : (Nat → Int32) × (Nat → Int32) => none) (fun res : (Nat → Int32) × (Nat → Int32) => (wX0_correct cB cI cZ a_this a_field a_sums a_spots a_locator a_rest a_field_powers a_field_logs a_arg1 n_arg1 v_size v_firstCheck v_spotted (res.1) v_spots v_sums v_field_logs v_field_powers (res.2))) res := by
  refine ctr_of RX0 (by decide) rfl (Nat.le_of_ble_eq_true rfl) ?_
  intro p e s m below meth c A C hw ls hl
  have hx := C.1
  have hb := C.2.1
  have hl : lv_has ls 8 [(0, .ref a_this), (1, .ref a_arg1), (2, .int x2)] := hl
  unfold fX0_correct at h
  refine lv_aload_n (pc := 0) hx hb dX0_correct_0 rfl (lv_at hl 0 rfl) ?_
  refine lv_aload_n (pc := 1) hx hb dX0_correct_1 rfl (lv_at hl 1 rfl) ?_
  refine lv_iload_n (pc := 2) hx hb dX0_correct_2 rfl (lv_at hl 2 rfl) ?_
  obtain ⟨r_1, hq_2, h⟩ := nt1_at h
  refine x_callV (pc := 3) (rest := []) (stk := [.int r_1]) (wX0_correct cB cI cZ a_this a_field a_sums a_spots a_locator a_rest a_field_powers a_field_logs a_arg1 n_arg1 v_size v_firstCheck v_spotted v_locator v_spots v_sums v_field_logs v_field_powers v_arg1) C hw (ct_X0_fits l D cB cI cZ tw a_this a_field a_sums a_spots a_locator a_rest a_arg1 n_arg1 v_size v_firstCheck v_spotted v_arg1 x2 r_1 hq_2.symm) cal_X0_fits tw_389 (q0 := 0) rfl rfl [0, 7] [1, 2, 3, 4, 5, 6] 8 [oX2 a_field a_field_powers a_field_logs, (a_locator, .inl (cI, 5, .inl v_locator)), (a_spots, .inl (cI, 4, .inl v_spots)), (a_sums, .inl (cI, 4, .inl v_sums)), (a_field_logs, .inl (cI, 256, .inl v_field_logs)), (a_field_powers, .inl (cI, 510, .inl v_field_powers))] rfl rfl rfl rfl rfl rfl rfl rfl rfl rfl rfl (Nat.le_of_ble_eq_true rfl) hl.1 ⟨Nat.le_of_ble_eq_true rfl, Nat.le_of_ble_eq_true rfl⟩ ⟨Nat.zero_le _, Nat.zero_le _⟩ dX0_correct_3 (fun H locs hw => ?_)
  refine lv_if_ne (pc := 6) (tgt := 10) hx hb dX0_correct_6 (by decide) (fun hc_3 => ?_) (fun hc_3 => ?_)
  · have h := iff' hc_3 h
    refine lv_iconst (pc := 10) (v := 0) hx hb dX0_correct_10 (by decide) ?_
    refine lv_istore_n (pc := 11) (lv' := [(3, .int 0), (0, .ref a_this), (1, .ref a_arg1), (2, .int x2)]) hx hb dX0_correct_11 rfl hl (by decide) rfl (fun ls hl => ?_)
    have Lih12_7 : ∀ (F : Nat) (x3_4 : Int32) (v_locator_5 : Nat → Int32) (v_arg1_6 : Nat → Int32) (ls : Array Slot) (H : Heap) (locs : List Loc), lv_has ls 8 [(3, .int x3_4), (0, .ref a_this), (1, .ref a_arg1), (2, .int x2)] → Wd D A s (wX0_correct cB cI cZ a_this a_field a_sums a_spots a_locator a_rest a_field_powers a_field_logs a_arg1 n_arg1 v_size v_firstCheck v_spotted v_locator_5 v_spots v_sums v_field_logs v_field_powers v_arg1_6) H locs → fX0_correct_L12 v_spotted v_size v_spots v_field_logs v_field_powers x2 n_arg1 v_sums F x3_4 v_locator_5 v_arg1_6 = some res → W p l e (rmK 2 48) s m ([.ref a_this, .ref a_arg1, .int x2] : List Value).toArray below meth c H locs 0 0 (MQ below (QG D (tyL cB cI cZ) A (fun _ : (Nat → Int32) × (Nat → Int32) => none) (fun res : (Nat → Int32) × (Nat → Int32) => (wX0_correct cB cI cZ a_this a_field a_sums a_spots a_locator a_rest a_field_powers a_field_logs a_arg1 n_arg1 v_size v_firstCheck v_spotted (res.1) v_spots v_sums v_field_logs v_field_powers (res.2))) res) ([.ref a_this, .ref a_arg1, .int x2] : List Value).toArray s 0 0 A) (F0 m 12 ls []) := by
      intro F
      induction F with
      | zero => intro x3_4 v_locator_5 v_arg1_6 ls H locs hl hw h; rw [fX0_correct_L12.eq_1] at h; cases h
      | succ F12_7 ih12_7 =>
        intro x3_4 v_locator_5 v_arg1_6 ls H locs hl hw h
        rw [fX0_correct_L12.eq_2] at h
        refine lv_iload_n (pc := 12) hx hb dX0_correct_12 rfl (lv_at hl 0 rfl) ?_
        refine lv_aload_n (pc := 13) hx hb dX0_correct_13 rfl (lv_at hl 1 rfl) ?_
        refine gf_X0_39 (pc := 14) C hw 0 rfl rfl dX0_correct_14 ?_
        refine lv_icmp_ge (pc := 17) (tgt := 134) hx hb dX0_correct_17 (by decide) (fun hc_8 => ?_) (fun hc_8 => ?_)
        · have h := ift hc_8 h
          exact x_vret (pc := 134) (v := (v_locator_5, v_arg1_6)) C (Option.some.inj h) rfl hw dX0_correct_134
        · have h := iff' hc_8 h
          refine lv_iload_n (pc := 20) hx hb dX0_correct_20 rfl (lv_at hl 0 rfl) ?_
          refine lv_aload_n (pc := 21) hx hb dX0_correct_21 rfl (lv_at hl 1 rfl) ?_
          refine gf_X0_15 (pc := 22) C hw 0 rfl rfl dX0_correct_22 ?_
          refine x_ilen (pc := 25) 4 C hw 3 1 rfl rfl (by decide) dX0_correct_25 ?_
          refine lv_icmp_ge (pc := 26) (tgt := 134) hx hb dX0_correct_26 (by decide) (fun hc_9 => ?_) (fun hc_9 => ?_)
          · have h := ift hc_9 h
            exact x_vret (pc := 134) (v := (v_locator_5, v_arg1_6)) C (Option.some.inj h) rfl hw dX0_correct_134
          · have h := iff' hc_9 h
            refine lv_aload_n (pc := 29) hx hb dX0_correct_29 rfl (lv_at hl 1 rfl) ?_
            refine lv_iload_n (pc := 30) hx hb dX0_correct_30 rfl (lv_at hl 0 rfl) ?_
            obtain ⟨r_10, v_locator_11, hq_12, h⟩ := ob2_at h
            refine x_callV (pc := 31) (rest := []) (stk := [.int r_10]) (wX0_correct cB cI cZ a_this a_field a_sums a_spots a_locator a_rest a_field_powers a_field_logs a_arg1 n_arg1 v_size v_firstCheck v_spotted v_locator_11 v_spots v_sums v_field_logs v_field_powers v_arg1_6) C hw (ct_X0_spread l D cB cI cZ tw a_this a_field a_sums a_spots a_locator a_rest a_field_powers a_field_logs v_size v_firstCheck v_spotted v_locator_5 v_spots v_field_logs v_field_powers x3_4 (r_10, v_locator_11) hq_12) cal_X0_spread tw_402 (q0 := 0) rfl rfl [0, 1, 2, 3, 5, 6] [4, 7] 8 [(a_sums, .inl (cI, 4, .inl v_sums)), (a_arg1, .inl (cB, n_arg1, .inl v_arg1_6))] rfl rfl rfl rfl rfl rfl rfl rfl rfl rfl rfl (Nat.le_of_ble_eq_true rfl) hl.1 ⟨Nat.le_of_ble_eq_true rfl, Nat.le_of_ble_eq_true rfl⟩ ⟨Nat.zero_le _, Nat.zero_le _⟩ dX0_correct_31 (fun H locs hw => ?_)
            refine lv_istore (pc := 34) (lv' := [(4, .int r_10), (3, .int x3_4), (0, .ref a_this), (1, .ref a_arg1), (2, .int x2)]) hx hb dX0_correct_34 hl (by decide) rfl (fun ls hl => ?_)
            refine lv_aload_n (pc := 36) hx hb dX0_correct_36 rfl (lv_at hl 2 rfl) ?_
            refine gf_X0_24 (pc := 37) C hw 0 rfl rfl dX0_correct_37 ?_
            refine lv_aload_n (pc := 40) hx hb dX0_correct_40 rfl (lv_at hl 2 rfl) ?_
            refine gf_X0_28 (pc := 41) C hw 0 rfl rfl dX0_correct_41 ?_
            refine lv_iconst (pc := 44) (v := 1) hx hb dX0_correct_44 (by decide) ?_
            refine lv_isub (pc := 45) hx hb dX0_correct_45 ?_
            refine lv_aload_n (pc := 46) hx hb dX0_correct_46 rfl (lv_at hl 2 rfl) ?_
            refine gf_X0_15 (pc := 47) C hw 0 rfl rfl dX0_correct_47 ?_
            refine lv_iload_n (pc := 50) hx hb dX0_correct_50 rfl (lv_at hl 1 rfl) ?_
            obtain ⟨hi_13, h⟩ := og_at h
            refine x_iald (pc := 51) C hw 3 rfl hi_13 dX0_correct_51 ?_
            refine lv_isub (pc := 52) hx hb dX0_correct_52 ?_
            obtain ⟨r_14, hq_15, h⟩ := ob1_at h
            refine x_callV (pc := 53) (rest := []) (stk := [.int r_14]) (wX0_correct cB cI cZ a_this a_field a_sums a_spots a_locator a_rest a_field_powers a_field_logs a_arg1 n_arg1 v_size v_firstCheck v_spotted v_locator_11 v_spots v_sums v_field_logs v_field_powers v_arg1_6) C hw (ct_X2_power l D cB cI cZ tw a_field a_field_powers a_field_logs v_field_powers ((v_size - (1 : Int32)) - (v_spots (Int32.toNatClampNeg x3_4))) r_14 hq_15) cal_X2_power tw_407 (q0 := 1) rfl rfl [1, 6] [0, 2, 3, 4, 5, 7] 8 [oX0 a_this a_field v_size v_firstCheck a_sums a_spots v_spotted a_locator a_rest, (a_locator, .inl (cI, 5, .inl v_locator_11)), (a_spots, .inl (cI, 4, .inl v_spots)), (a_sums, .inl (cI, 4, .inl v_sums)), (a_field_logs, .inl (cI, 256, .inl v_field_logs)), (a_arg1, .inl (cB, n_arg1, .inl v_arg1_6))] rfl rfl rfl rfl rfl rfl rfl rfl rfl rfl rfl (Nat.le_of_ble_eq_true rfl) hl.1 ⟨Nat.le_of_ble_eq_true rfl, Nat.le_of_ble_eq_true rfl⟩ ⟨Nat.zero_le _, Nat.zero_le _⟩ dX0_correct_53 (fun H locs hw => ?_)
            refine lv_istore (pc := 56) (lv' := [(5, .int r_14), (4, .int r_10), (3, .int x3_4), (0, .ref a_this), (1, .ref a_arg1), (2, .int x2)]) hx hb dX0_correct_56 hl (by decide) rfl (fun ls hl => ?_)
            refine lv_iconst (pc := 58) (v := 0) hx hb dX0_correct_58 (by decide) ?_
            refine lv_istore (pc := 59) (lv' := [(6, .int 0), (5, .int r_14), (4, .int r_10), (3, .int x3_4), (0, .ref a_this), (1, .ref a_arg1), (2, .int x2)]) hx hb dX0_correct_59 hl (by decide) rfl (fun ls hl => ?_)
            refine lv_iload (pc := 61) hx hb dX0_correct_61 (lv_at hl 2 rfl) ?_
            refine lv_istore (pc := 63) (lv' := [(7, .int r_10), (6, .int 0), (5, .int r_14), (4, .int r_10), (3, .int x3_4), (0, .ref a_this), (1, .ref a_arg1), (2, .int x2)]) hx hb dX0_correct_63 hl (by decide) rfl (fun ls hl => ?_)
            obtain ⟨j97_17, ej97_17, h⟩ := jk_at h
            have J97_17 : ∀ (x6_16 : Int32) (ls : Array Slot) (H : Heap) (locs : List Loc), lv_has ls 8 [(6, .int x6_16), (4, .int r_10), (3, .int x3_4), (0, .ref a_this), (1, .ref a_arg1), (2, .int x2)] → Wd D A s (wX0_correct cB cI cZ a_this a_field a_sums a_spots a_locator a_rest a_field_powers a_field_logs a_arg1 n_arg1 v_size v_firstCheck v_spotted v_locator_11 v_spots v_sums v_field_logs v_field_powers v_arg1_6) H locs → j97_17 x6_16 = some res → W p l e (rmK 2 48) s m ([.ref a_this, .ref a_arg1, .int x2] : List Value).toArray below meth c H locs 0 0 (MQ below (QG D (tyL cB cI cZ) A (fun _ : (Nat → Int32) × (Nat → Int32) => none) (fun res : (Nat → Int32) × (Nat → Int32) => (wX0_correct cB cI cZ a_this a_field a_sums a_spots a_locator a_rest a_field_powers a_field_logs a_arg1 n_arg1 v_size v_firstCheck v_spotted (res.1) v_spots v_sums v_field_logs v_field_powers (res.2))) res) ([.ref a_this, .ref a_arg1, .int x2] : List Value).toArray s 0 0 A) (F0 m 97 ls []) := by
              intro x6_16 ls H locs hl hw h
              have h := k1_at ej97_17 h
              refine lv_aload_n (pc := 97) hx hb dX0_correct_97 rfl (lv_at hl 4 rfl) ?_
              refine lv_iload_n (pc := 98) hx hb dX0_correct_98 rfl (lv_at hl 5 rfl) ?_
              refine lv_aload_n (pc := 99) hx hb dX0_correct_99 rfl (lv_at hl 3 rfl) ?_
              refine gf_X0_15 (pc := 100) C hw 0 rfl rfl dX0_correct_100 ?_
              refine lv_iload_n (pc := 103) hx hb dX0_correct_103 rfl (lv_at hl 2 rfl) ?_
              obtain ⟨hi_18, h⟩ := og_at h
              refine x_iald (pc := 104) C hw 3 rfl hi_18 dX0_correct_104 ?_
              refine lv_iadd (pc := 105) hx hb dX0_correct_105 ?_
              refine lv_dup2_11 (pc := 106) hx hb dX0_correct_106 rfl rfl ?_
              obtain ⟨hi_19, h⟩ := og_at h
              refine x_bald (pc := 107) C hw 7 rfl hi_19 dX0_correct_107 ?_
              refine lv_aload_n (pc := 108) hx hb dX0_correct_108 rfl (lv_at hl 3 rfl) ?_
              refine gf_X0_24 (pc := 109) C hw 0 rfl rfl dX0_correct_109 ?_
              refine lv_aload_n (pc := 112) hx hb dX0_correct_112 rfl (lv_at hl 3 rfl) ?_
              refine lv_iload (pc := 113) hx hb dX0_correct_113 (lv_at hl 1 rfl) ?_
              refine lv_iconst (pc := 115) (v := 0) hx hb dX0_correct_115 (by decide) ?_
              obtain ⟨r_20, hq_21, h⟩ := ob1_at h
              refine x_callV (pc := 116) (rest := [.ref a_field, .int (v_arg1_6 (Int32.toNatClampNeg (x2 + (v_spots (Int32.toNatClampNeg x3_4))))), .int (x2 + (v_spots (Int32.toNatClampNeg x3_4))), .ref a_arg1]) (stk := [.int r_20, .ref a_field, .int (v_arg1_6 (Int32.toNatClampNeg (x2 + (v_spots (Int32.toNatClampNeg x3_4))))), .int (x2 + (v_spots (Int32.toNatClampNeg x3_4))), .ref a_arg1]) (wX0_correct cB cI cZ a_this a_field a_sums a_spots a_locator a_rest a_field_powers a_field_logs a_arg1 n_arg1 v_size v_firstCheck v_spotted v_locator_11 v_spots v_sums v_field_logs v_field_powers v_arg1_6) C hw (ct_X0_without l D cB cI cZ tw a_this a_field a_sums a_spots a_locator a_rest a_field_powers a_field_logs v_size v_firstCheck v_spotted v_locator_11 v_sums v_field_logs v_field_powers r_10 0 r_20 hq_21) cal_X0_without tw_415 (q0 := 0) rfl rfl [0, 1, 2, 4, 5, 6] [3, 7] 8 [(a_spots, .inl (cI, 4, .inl v_spots)), (a_arg1, .inl (cB, n_arg1, .inl v_arg1_6))] rfl rfl rfl rfl rfl rfl rfl rfl rfl rfl rfl (Nat.le_of_ble_eq_true rfl) hl.1 ⟨Nat.le_of_ble_eq_true rfl, Nat.le_of_ble_eq_true rfl⟩ ⟨Nat.zero_le _, Nat.zero_le _⟩ dX0_correct_116 (fun H locs hw => ?_)
              refine lv_iload (pc := 119) hx hb dX0_correct_119 (lv_at hl 0 rfl) ?_
              obtain ⟨r_22, hq_23, h⟩ := ob1_at h
              refine x_callV (pc := 121) (rest := [.int (v_arg1_6 (Int32.toNatClampNeg (x2 + (v_spots (Int32.toNatClampNeg x3_4))))), .int (x2 + (v_spots (Int32.toNatClampNeg x3_4))), .ref a_arg1]) (stk := [.int r_22, .int (v_arg1_6 (Int32.toNatClampNeg (x2 + (v_spots (Int32.toNatClampNeg x3_4))))), .int (x2 + (v_spots (Int32.toNatClampNeg x3_4))), .ref a_arg1]) (wX0_correct cB cI cZ a_this a_field a_sums a_spots a_locator a_rest a_field_powers a_field_logs a_arg1 n_arg1 v_size v_firstCheck v_spotted v_locator_11 v_spots v_sums v_field_logs v_field_powers v_arg1_6) C hw (ct_X2_over l D cB cI cZ tw a_field a_field_powers a_field_logs v_field_logs v_field_powers r_20 x6_16 r_22 hq_23) cal_X2_over tw_419 (q0 := 1) rfl rfl [1, 5, 6] [0, 2, 3, 4, 7] 8 [oX0 a_this a_field v_size v_firstCheck a_sums a_spots v_spotted a_locator a_rest, (a_locator, .inl (cI, 5, .inl v_locator_11)), (a_spots, .inl (cI, 4, .inl v_spots)), (a_sums, .inl (cI, 4, .inl v_sums)), (a_arg1, .inl (cB, n_arg1, .inl v_arg1_6))] rfl rfl rfl rfl rfl rfl rfl rfl rfl rfl rfl (Nat.le_of_ble_eq_true rfl) hl.1 ⟨Nat.le_of_ble_eq_true rfl, Nat.le_of_ble_eq_true rfl⟩ ⟨Nat.zero_le _, Nat.zero_le _⟩ dX0_correct_121 (fun H locs hw => ?_)
              refine lv_i2b (pc := 124) hx hb dX0_correct_124 rfl ?_
              refine lv_ixor (pc := 125) hx hb dX0_correct_125 ?_
              refine lv_i2b (pc := 126) hx hb dX0_correct_126 rfl ?_
              obtain ⟨hi_24, h⟩ := og_at h
              obtain ⟨v_arg1_25, ev_arg1_25⟩ : ∃ y : Nat → Int32, y = upd v_arg1_6 (Int32.toNatClampNeg (x2 + (v_spots (Int32.toNatClampNeg x3_4)))) (vp_nar .byte (Int8.toInt32 (Int32.toInt8 ((v_arg1_6 (Int32.toNatClampNeg (x2 + (v_spots (Int32.toNatClampNeg x3_4))))) ^^^ (Int8.toInt32 (Int32.toInt8 r_22)))))) := ⟨_, rfl⟩
              have h := nm_at ev_arg1_25 h
              refine x_bast (pc := 127) (wX0_correct cB cI cZ a_this a_field a_sums a_spots a_locator a_rest a_field_powers a_field_logs a_arg1 n_arg1 v_size v_firstCheck v_spotted v_locator_11 v_spots v_sums v_field_logs v_field_powers v_arg1_25) C hw 7 rfl hi_24 (by rw [ev_arg1_25]; rfl) dX0_correct_127 (fun H locs hw => ?_)
              obtain ⟨x3_26, ex3_26⟩ : ∃ y : Int32, y = x3_4 + 1 := ⟨_, rfl⟩
              have h := nm_at ex3_26 h
              refine lv_iinc (pc := 128) (v := x3_26) (lv' := [(3, .int x3_26), (6, .int x6_16), (4, .int r_10), (0, .ref a_this), (1, .ref a_arg1), (2, .int x2)]) hx hb dX0_correct_128 hl (k := 2) rfl (by rw [ex3_26]; rfl) (by decide) rfl (fun ls hl => ?_)
              refine lv_goto (pc := 131) (tgt := 12) hx hb dX0_correct_131 (by decide) ?_
              exact ih12_7 x3_26 v_locator_11 v_arg1_25 ls _ _ (lv_sub hl [0, 3, 4, 5] rfl) hw h
            have Lih65_29 : ∀ (F : Nat) (x7_27 : Int32) (x6_28 : Int32) (ls : Array Slot) (H : Heap) (locs : List Loc), lv_has ls 8 [(7, .int x7_27), (6, .int x6_28), (5, .int r_14), (4, .int r_10), (3, .int x3_4), (0, .ref a_this), (1, .ref a_arg1), (2, .int x2)] → Wd D A s (wX0_correct cB cI cZ a_this a_field a_sums a_spots a_locator a_rest a_field_powers a_field_logs a_arg1 n_arg1 v_size v_firstCheck v_spotted v_locator_11 v_spots v_sums v_field_logs v_field_powers v_arg1_6) H locs → fX0_correct_L65 j97_17 v_field_logs v_field_powers r_14 v_locator_11 F x7_27 x6_28 = some res → W p l e (rmK 2 48) s m ([.ref a_this, .ref a_arg1, .int x2] : List Value).toArray below meth c H locs 0 0 (MQ below (QG D (tyL cB cI cZ) A (fun _ : (Nat → Int32) × (Nat → Int32) => none) (fun res : (Nat → Int32) × (Nat → Int32) => (wX0_correct cB cI cZ a_this a_field a_sums a_spots a_locator a_rest a_field_powers a_field_logs a_arg1 n_arg1 v_size v_firstCheck v_spotted (res.1) v_spots v_sums v_field_logs v_field_powers (res.2))) res) ([.ref a_this, .ref a_arg1, .int x2] : List Value).toArray s 0 0 A) (F0 m 65 ls []) := by
              intro F
              induction F with
              | zero => intro x7_27 x6_28 ls H locs hl hw h; rw [fX0_correct_L65.eq_1] at h; cases h
              | succ F65_29 ih65_29 =>
                intro x7_27 x6_28 ls H locs hl hw h
                rw [fX0_correct_L65.eq_2] at h
                refine lv_iload (pc := 65) hx hb dX0_correct_65 (lv_at hl 0 rfl) ?_
                refine lv_if_lt (pc := 67) (tgt := 97) hx hb dX0_correct_67 (by decide) (fun hc_30 => ?_) (fun hc_30 => ?_)
                · have h := ift hc_30 h
                  exact J97_17 x6_28 ls _ _ (lv_sub hl [1, 3, 4, 5, 6, 7] rfl) hw h
                · have h := iff' hc_30 h
                  refine lv_aload_n (pc := 70) hx hb dX0_correct_70 rfl (lv_at hl 5 rfl) ?_
                  refine gf_X0_24 (pc := 71) C hw 0 rfl rfl dX0_correct_71 ?_
                  refine lv_iload (pc := 74) hx hb dX0_correct_74 (lv_at hl 1 rfl) ?_
                  refine lv_iload (pc := 76) hx hb dX0_correct_76 (lv_at hl 2 rfl) ?_
                  obtain ⟨r_31, hq_32, h⟩ := ob1_at h
                  refine x_callV (pc := 78) (rest := []) (stk := [.int r_31]) (wX0_correct cB cI cZ a_this a_field a_sums a_spots a_locator a_rest a_field_powers a_field_logs a_arg1 n_arg1 v_size v_firstCheck v_spotted v_locator_11 v_spots v_sums v_field_logs v_field_powers v_arg1_6) C hw (ct_X2_times l D cB cI cZ tw a_field a_field_powers a_field_logs v_field_logs v_field_powers x6_28 r_14 r_31 hq_32) cal_X2_times tw_411 (q0 := 1) rfl rfl [1, 5, 6] [0, 2, 3, 4, 7] 8 [oX0 a_this a_field v_size v_firstCheck a_sums a_spots v_spotted a_locator a_rest, (a_locator, .inl (cI, 5, .inl v_locator_11)), (a_spots, .inl (cI, 4, .inl v_spots)), (a_sums, .inl (cI, 4, .inl v_sums)), (a_arg1, .inl (cB, n_arg1, .inl v_arg1_6))] rfl rfl rfl rfl rfl rfl rfl rfl rfl rfl rfl (Nat.le_of_ble_eq_true rfl) hl.1 ⟨Nat.le_of_ble_eq_true rfl, Nat.le_of_ble_eq_true rfl⟩ ⟨Nat.zero_le _, Nat.zero_le _⟩ dX0_correct_78 (fun H locs hw => ?_)
                  refine lv_aload_n (pc := 81) hx hb dX0_correct_81 rfl (lv_at hl 5 rfl) ?_
                  refine gf_X0_18 (pc := 82) C hw 0 rfl rfl dX0_correct_82 ?_
                  refine lv_iload (pc := 85) hx hb dX0_correct_85 (lv_at hl 0 rfl) ?_
                  obtain ⟨hi_33, h⟩ := og_at h
                  refine x_iald (pc := 87) C hw 2 rfl hi_33 dX0_correct_87 ?_
                  refine lv_ixor (pc := 88) hx hb dX0_correct_88 ?_
                  refine lv_topi (pc := 89) (fun x6_34 ex6_34 => ?_)
                  have h := nm_at ex6_34 h
                  refine lv_istore (pc := 89) (lv' := [(6, .int x6_34), (7, .int x7_27), (5, .int r_14), (4, .int r_10), (3, .int x3_4), (0, .ref a_this), (1, .ref a_arg1), (2, .int x2)]) hx hb dX0_correct_89 hl (by decide) rfl (fun ls hl => ?_)
                  obtain ⟨x7_35, ex7_35⟩ : ∃ y : Int32, y = x7_27 + (-1) := ⟨_, rfl⟩
                  have h := nm_at ex7_35 h
                  refine lv_iinc (pc := 91) (v := x7_35) (lv' := [(7, .int x7_35), (6, .int x6_34), (5, .int r_14), (4, .int r_10), (3, .int x3_4), (0, .ref a_this), (1, .ref a_arg1), (2, .int x2)]) hx hb dX0_correct_91 hl (k := 1) rfl (by rw [ex7_35]; rfl) (by decide) rfl (fun ls hl => ?_)
                  refine lv_goto (pc := 94) (tgt := 65) hx hb dX0_correct_94 (by decide) ?_
                  exact ih65_29 x7_35 x6_34 ls _ _ (lv_sub hl [0, 1, 2, 3, 4, 5, 6, 7] rfl) hw h
            exact Lih65_29 FU r_10 0 ls _ _ (lv_sub hl [0, 1, 2, 3, 4, 5, 6, 7] rfl) hw h
    exact Lih12_7 FU 0 v_locator v_arg1 ls _ _ (lv_sub hl [0, 1, 2, 3] rfl) hw h
  · have h := ift hc_3 h
    exact x_vret (pc := 9) (v := (v_locator, v_arg1)) C (Option.some.inj h) rfl hw dX0_correct_9
def wX0_settle (cB cI cZ : ClassId) (a_this : Nat) (a_field : Nat) (a_sums : Nat) (a_spots : Nat) (a_locator : Nat) (a_rest : Nat) (a_field_powers : Nat) (a_field_logs : Nat) (a_arg1 : Nat) (n_arg1 : Nat) (v_size : Int32) (v_firstCheck : Int32) (v_spotted : Int32) (v_locator : Nat → Int32) (v_spots : Nat → Int32) (v_sums : Nat → Int32) (v_field_logs : Nat → Int32) (v_field_powers : Nat → Int32) (v_arg1 : Nat → Int32) : va_W := [oX0 a_this a_field v_size v_firstCheck a_sums a_spots v_spotted a_locator a_rest, oX2 a_field a_field_powers a_field_logs, (a_locator, .inl (cI, 5, .inl v_locator)), (a_spots, .inl (cI, 4, .inl v_spots)), (a_sums, .inl (cI, 4, .inl v_sums)), (a_field_logs, .inl (cI, 256, .inl v_field_logs)), (a_field_powers, .inl (cI, 510, .inl v_field_powers)), (a_arg1, .inl (cB, n_arg1, .inl v_arg1))]
def fX0_settle_L13 (j34_5 : Int32 → (Nat → Int32) → Option (Int32 × (Nat → Int32) × (Nat → Int32) × (Nat → Int32) × (Nat → Int32))) (v_firstCheck : Int32) : Nat → Int32 → Int32 → (Nat → Int32) → Option (Int32 × (Nat → Int32) × (Nat → Int32) × (Nat → Int32) × (Nat → Int32))
  | 0, _, _, _ => none
  | F13_12 + 1, x3_9, v_spotted_10, v_spots_11 => if (4 : Int32) ≤ x3_9 then j34_5 v_spotted_10 v_spots_11 else ob2 (fX0_addSpot v_spotted_10 v_spots_11 (v_firstCheck + x3_9)) fun v_spotted_14 v_spots_15 => nm (x3_9 + 1 : Int32) fun x3_17 => fX0_settle_L13 j34_5 v_firstCheck F13_12 x3_17 v_spotted_14 v_spots_15
def fX0_settle (v_firstCheck : Int32) (v_size : Int32) (v_spotted : Int32) (v_locator : Nat → Int32) (v_spots : Nat → Int32) (v_sums : Nat → Int32) (v_field_logs : Nat → Int32) (v_field_powers : Nat → Int32) (v_arg1 : Nat → Int32) (n_arg1 : Nat) (x2 : Int32) : Option (Int32 × (Nat → Int32) × (Nat → Int32) × (Nat → Int32) × (Nat → Int32)) := ob1 (fX0_sumUp v_size v_sums v_arg1 n_arg1 x2) fun v_sums_1 => jk (fun (v_spotted_3 : Int32) (v_spots_4 : Nat → Int32) => ob2 (fX0_correct v_size v_spotted_3 v_locator v_spots_4 v_sums_1 v_field_logs v_field_powers v_arg1 n_arg1 x2) fun v_locator_6 v_arg1_7 => some (v_spotted_3, v_locator_6, v_spots_4, v_sums_1, v_arg1_7)) fun j34_5 => fX0_settle_L13 j34_5 v_firstCheck FU 0 0 v_spots
set_option maxHeartbeats 4000000 in
set_option maxRecDepth 100000 in
theorem ct_X0_settle (l : Launch) (D : va_G) (cB cI cZ : ClassId) (tw : Nat) (a_this : Nat) (a_field : Nat) (a_sums : Nat) (a_spots : Nat) (a_locator : Nat) (a_rest : Nat) (a_field_powers : Nat) (a_field_logs : Nat) (a_arg1 : Nat) (n_arg1 : Nat) (v_size : Int32) (v_firstCheck : Int32) (v_spotted : Int32) (v_locator : Nat → Int32) (v_spots : Nat → Int32) (v_sums : Nat → Int32) (v_field_logs : Nat → Int32) (v_field_powers : Nat → Int32) (v_arg1 : Nat → Int32) (x2 : Int32) (res : Int32 × (Nat → Int32) × (Nat → Int32) × (Nat → Int32) × (Nat → Int32)) (h : fX0_settle v_firstCheck v_size v_spotted v_locator v_spots v_sums v_field_logs v_field_powers v_arg1 n_arg1 x2 = some res) : Ctr l yX0_settle cX0_settle 4 none (rmK 3 75) D (tyL cB cI cZ) tw [.ref a_this, .ref a_arg1, .int x2] (wX0_settle cB cI cZ a_this a_field a_sums a_spots a_locator a_rest a_field_powers a_field_logs a_arg1 n_arg1 v_size v_firstCheck v_spotted v_locator v_spots v_sums v_field_logs v_field_powers v_arg1) (fun _ : Int32 × (Nat → Int32) × (Nat → Int32) × (Nat → Int32) × (Nat → Int32) => none) (fun res : Int32 × (Nat → Int32) × (Nat → Int32) × (Nat → Int32) × (Nat → Int32) => (wX0_settle cB cI cZ a_this a_field a_sums a_spots a_locator a_rest a_field_powers a_field_logs a_arg1 n_arg1 v_size v_firstCheck (res.1) (res.2.1) (res.2.2.1) (res.2.2.2.1) v_field_logs v_field_powers (res.2.2.2.2))) res := by
  refine ctr_of RX0 (by decide) rfl (Nat.le_of_ble_eq_true rfl) ?_
  intro p e s m below meth c A C hw ls hl
  have hx := C.1
  have hb := C.2.1
  have hl : lv_has ls 4 [(0, .ref a_this), (1, .ref a_arg1), (2, .int x2)] := hl
  unfold fX0_settle at h
  refine lv_aload_n (pc := 0) hx hb dX0_settle_0 rfl (lv_at hl 0 rfl) ?_
  refine lv_aload_n (pc := 1) hx hb dX0_settle_1 rfl (lv_at hl 1 rfl) ?_
  refine lv_iload_n (pc := 2) hx hb dX0_settle_2 rfl (lv_at hl 2 rfl) ?_
  obtain ⟨v_sums_1, hq_2, h⟩ := ob1_at h
  refine x_callV (pc := 3) (rest := []) (stk := []) (wX0_settle cB cI cZ a_this a_field a_sums a_spots a_locator a_rest a_field_powers a_field_logs a_arg1 n_arg1 v_size v_firstCheck v_spotted v_locator v_spots v_sums_1 v_field_logs v_field_powers v_arg1) C hw (ct_X0_sumUp l D cB cI cZ tw a_this a_field a_sums a_spots a_locator a_rest a_arg1 n_arg1 v_size v_firstCheck v_spotted v_sums v_arg1 x2 v_sums_1 hq_2) cal_X0_sumUp tw_385 (q0 := 0) rfl rfl [0, 4, 7] [1, 2, 3, 5, 6] 8 [oX2 a_field a_field_powers a_field_logs, (a_locator, .inl (cI, 5, .inl v_locator)), (a_spots, .inl (cI, 4, .inl v_spots)), (a_field_logs, .inl (cI, 256, .inl v_field_logs)), (a_field_powers, .inl (cI, 510, .inl v_field_powers))] rfl rfl rfl rfl rfl rfl rfl rfl rfl rfl rfl (Nat.le_of_ble_eq_true rfl) hl.1 ⟨Nat.le_of_ble_eq_true rfl, Nat.le_of_ble_eq_true rfl⟩ ⟨Nat.zero_le _, Nat.zero_le _⟩ dX0_settle_3 (fun H locs hw => ?_)
  refine lv_aload_n (pc := 6) hx hb dX0_settle_6 rfl (lv_at hl 0 rfl) ?_
  refine lv_iconst (pc := 7) (v := 0) hx hb dX0_settle_7 (by decide) ?_
  refine pf_X0_39 (pc := 8) (wX0_settle cB cI cZ a_this a_field a_sums a_spots a_locator a_rest a_field_powers a_field_logs a_arg1 n_arg1 v_size v_firstCheck 0 v_locator v_spots v_sums_1 v_field_logs v_field_powers v_arg1) C hw 0 rfl rfl rfl rfl (Nat.le_of_ble_eq_true rfl) dX0_settle_8 (fun H locs hw => ?_)
  refine lv_iconst (pc := 11) (v := 0) hx hb dX0_settle_11 (by decide) ?_
  refine lv_istore_n (pc := 12) (lv' := [(3, .int 0), (0, .ref a_this), (1, .ref a_arg1), (2, .int x2)]) hx hb dX0_settle_12 rfl hl (by decide) rfl (fun ls hl => ?_)
  obtain ⟨j34_5, ej34_5, h⟩ := jk_at h
  have J34_5 : ∀ (v_spotted_3 : Int32) (v_spots_4 : Nat → Int32) (ls : Array Slot) (H : Heap) (locs : List Loc), lv_has ls 4 [(0, .ref a_this), (1, .ref a_arg1), (2, .int x2)] → Wd D A s (wX0_settle cB cI cZ a_this a_field a_sums a_spots a_locator a_rest a_field_powers a_field_logs a_arg1 n_arg1 v_size v_firstCheck v_spotted_3 v_locator v_spots_4 v_sums_1 v_field_logs v_field_powers v_arg1) H locs → j34_5 v_spotted_3 v_spots_4 = some res → W p l e (rmK 3 75) s m ([.ref a_this, .ref a_arg1, .int x2] : List Value).toArray below meth c H locs 0 0 (MQ below (QG D (tyL cB cI cZ) A (fun _ : Int32 × (Nat → Int32) × (Nat → Int32) × (Nat → Int32) × (Nat → Int32) => none) (fun res : Int32 × (Nat → Int32) × (Nat → Int32) × (Nat → Int32) × (Nat → Int32) => (wX0_settle cB cI cZ a_this a_field a_sums a_spots a_locator a_rest a_field_powers a_field_logs a_arg1 n_arg1 v_size v_firstCheck (res.1) (res.2.1) (res.2.2.1) (res.2.2.2.1) v_field_logs v_field_powers (res.2.2.2.2))) res) ([.ref a_this, .ref a_arg1, .int x2] : List Value).toArray s 0 0 A) (F0 m 34 ls []) := by
    intro v_spotted_3 v_spots_4 ls H locs hl hw h
    have h := k2_at ej34_5 h
    refine lv_aload_n (pc := 34) hx hb dX0_settle_34 rfl (lv_at hl 0 rfl) ?_
    refine lv_aload_n (pc := 35) hx hb dX0_settle_35 rfl (lv_at hl 1 rfl) ?_
    refine lv_iload_n (pc := 36) hx hb dX0_settle_36 rfl (lv_at hl 2 rfl) ?_
    obtain ⟨v_locator_6, v_arg1_7, hq_8, h⟩ := ob2_at h
    refine x_callV (pc := 37) (rest := []) (stk := []) (wX0_settle cB cI cZ a_this a_field a_sums a_spots a_locator a_rest a_field_powers a_field_logs a_arg1 n_arg1 v_size v_firstCheck v_spotted_3 v_locator_6 v_spots_4 v_sums_1 v_field_logs v_field_powers v_arg1_7) C hw (ct_X0_correct l D cB cI cZ tw a_this a_field a_sums a_spots a_locator a_rest a_field_powers a_field_logs a_arg1 n_arg1 v_size v_firstCheck v_spotted_3 v_locator v_spots_4 v_sums_1 v_field_logs v_field_powers v_arg1 x2 (v_locator_6, v_arg1_7) hq_8) cal_X0_correct tw_398 (q0 := 0) rfl rfl [0, 1, 2, 3, 4, 5, 6, 7] [] 8 [] rfl rfl rfl rfl rfl rfl rfl rfl rfl rfl rfl (Nat.le_of_ble_eq_true rfl) hl.1 ⟨Nat.le_of_ble_eq_true rfl, Nat.le_of_ble_eq_true rfl⟩ ⟨Nat.zero_le _, Nat.zero_le _⟩ dX0_settle_37 (fun H locs hw => ?_)
    exact x_vret (pc := 40) (v := (v_spotted_3, v_locator_6, v_spots_4, v_sums_1, v_arg1_7)) C (Option.some.inj h) rfl hw dX0_settle_40
  have Lih13_12 : ∀ (F : Nat) (x3_9 : Int32) (v_spotted_10 : Int32) (v_spots_11 : Nat → Int32) (ls : Array Slot) (H : Heap) (locs : List Loc), lv_has ls 4 [(3, .int x3_9), (0, .ref a_this), (1, .ref a_arg1), (2, .int x2)] → Wd D A s (wX0_settle cB cI cZ a_this a_field a_sums a_spots a_locator a_rest a_field_powers a_field_logs a_arg1 n_arg1 v_size v_firstCheck v_spotted_10 v_locator v_spots_11 v_sums_1 v_field_logs v_field_powers v_arg1) H locs → fX0_settle_L13 j34_5 v_firstCheck F x3_9 v_spotted_10 v_spots_11 = some res → W p l e (rmK 3 75) s m ([.ref a_this, .ref a_arg1, .int x2] : List Value).toArray below meth c H locs 0 0 (MQ below (QG D (tyL cB cI cZ) A (fun _ : Int32 × (Nat → Int32) × (Nat → Int32) × (Nat → Int32) × (Nat → Int32) => none) (fun res : Int32 × (Nat → Int32) × (Nat → Int32) × (Nat → Int32) × (Nat → Int32) => (wX0_settle cB cI cZ a_this a_field a_sums a_spots a_locator a_rest a_field_powers a_field_logs a_arg1 n_arg1 v_size v_firstCheck (res.1) (res.2.1) (res.2.2.1) (res.2.2.2.1) v_field_logs v_field_powers (res.2.2.2.2))) res) ([.ref a_this, .ref a_arg1, .int x2] : List Value).toArray s 0 0 A) (F0 m 13 ls []) := by
    intro F
    induction F with
    | zero => intro x3_9 v_spotted_10 v_spots_11 ls H locs hl hw h; rw [fX0_settle_L13.eq_1] at h; cases h
    | succ F13_12 ih13_12 =>
      intro x3_9 v_spotted_10 v_spots_11 ls H locs hl hw h
      rw [fX0_settle_L13.eq_2] at h
      refine lv_iload_n (pc := 13) hx hb dX0_settle_13 rfl (lv_at hl 0 rfl) ?_
      refine lv_iconst (pc := 14) (v := 4) hx hb dX0_settle_14 (by decide) ?_
      refine lv_icmp_ge (pc := 15) (tgt := 34) hx hb dX0_settle_15 (by decide) (fun hc_13 => ?_) (fun hc_13 => ?_)
      · have h := ift hc_13 h
        exact J34_5 v_spotted_10 v_spots_11 ls _ _ (lv_sub hl [1, 2, 3] rfl) hw h
      · have h := iff' hc_13 h
        refine lv_aload_n (pc := 18) hx hb dX0_settle_18 rfl (lv_at hl 1 rfl) ?_
        refine lv_aload_n (pc := 19) hx hb dX0_settle_19 rfl (lv_at hl 1 rfl) ?_
        refine gf_X0_32 (pc := 20) C hw 0 rfl rfl dX0_settle_20 ?_
        refine lv_iload_n (pc := 23) hx hb dX0_settle_23 rfl (lv_at hl 0 rfl) ?_
        refine lv_iadd (pc := 24) hx hb dX0_settle_24 ?_
        obtain ⟨v_spotted_14, v_spots_15, hq_16, h⟩ := ob2_at h
        refine x_callV (pc := 25) (rest := []) (stk := []) (wX0_settle cB cI cZ a_this a_field a_sums a_spots a_locator a_rest a_field_powers a_field_logs a_arg1 n_arg1 v_size v_firstCheck v_spotted_14 v_locator v_spots_15 v_sums_1 v_field_logs v_field_powers v_arg1) C hw (ct_X0_addSpot l D cB cI cZ tw a_this a_field a_sums a_spots a_locator a_rest v_size v_firstCheck v_spotted_10 v_spots_11 (v_firstCheck + x3_9) (v_spotted_14, v_spots_15) hq_16) cal_X0_addSpot tw_394 (q0 := 0) rfl rfl [0, 3] [1, 2, 4, 5, 6, 7] 8 [oX2 a_field a_field_powers a_field_logs, (a_locator, .inl (cI, 5, .inl v_locator)), (a_sums, .inl (cI, 4, .inl v_sums_1)), (a_field_logs, .inl (cI, 256, .inl v_field_logs)), (a_field_powers, .inl (cI, 510, .inl v_field_powers)), (a_arg1, .inl (cB, n_arg1, .inl v_arg1))] rfl rfl rfl rfl rfl rfl rfl rfl rfl rfl rfl (Nat.le_of_ble_eq_true rfl) hl.1 ⟨Nat.le_of_ble_eq_true rfl, Nat.le_of_ble_eq_true rfl⟩ ⟨Nat.zero_le _, Nat.zero_le _⟩ dX0_settle_25 (fun H locs hw => ?_)
        obtain ⟨x3_17, ex3_17⟩ : ∃ y : Int32, y = x3_9 + 1 := ⟨_, rfl⟩
        have h := nm_at ex3_17 h
        refine lv_iinc (pc := 28) (v := x3_17) (lv' := [(3, .int x3_17), (0, .ref a_this), (1, .ref a_arg1), (2, .int x2)]) hx hb dX0_settle_28 hl (k := 0) rfl (by rw [ex3_17]; rfl) (by decide) rfl (fun ls hl => ?_)
        refine lv_goto (pc := 31) (tgt := 13) hx hb dX0_settle_31 (by decide) ?_
        exact ih13_12 x3_17 v_spotted_14 v_spots_15 ls _ _ (lv_sub hl [0, 1, 2, 3] rfl) hw h
  exact Lih13_12 FU 0 0 v_spots ls _ _ (lv_sub hl [0, 1, 2, 3] rfl) hw h
def wX0_locateOne (cB cI cZ : ClassId) (a_this : Nat) (a_field : Nat) (a_sums : Nat) (a_spots : Nat) (a_locator : Nat) (a_rest : Nat) (a_field_powers : Nat) (a_field_logs : Nat) (v_size : Int32) (v_firstCheck : Int32) (v_spotted : Int32) (v_rest : Nat → Int32) (v_spots : Nat → Int32) (v_field_logs : Nat → Int32) (v_field_powers : Nat → Int32) : va_W := [oX0 a_this a_field v_size v_firstCheck a_sums a_spots v_spotted a_locator a_rest, oX2 a_field a_field_powers a_field_logs, (a_rest, .inl (cI, 4, .inl v_rest)), (a_spots, .inl (cI, 4, .inl v_spots)), (a_field_logs, .inl (cI, 256, .inl v_field_logs)), (a_field_powers, .inl (cI, 510, .inl v_field_powers))]
def fX0_locateOne_L32 (x2 : Int32) (j88_7 : Option (Int32 × Int32 × (Nat → Int32))) (v_field_logs : Nat → Int32) (v_field_powers : Nat → Int32) (v_rest : Nat → Int32) (v_spotted : Int32) (v_spots : Nat → Int32) : Nat → Int32 → Option (Int32 × Int32 × (Nat → Int32))
  | 0, _ => none
  | F32_21 + 1, x3_20 => if x2 ≤ x3_20 then j88_7 else og (ixb x3_20 4) (og (ixb 0 4) (ob1 (fX2_times v_field_logs v_field_powers (v_rest (Int32.toNatClampNeg x3_20)) (v_rest (Int32.toNatClampNeg 0))) fun r_25 => og (ixb (x3_20 - (1 : Int32)) 4) (og (ixb 1 4) (ob1 (fX2_times v_field_logs v_field_powers (v_rest (Int32.toNatClampNeg (x3_20 - (1 : Int32)))) (v_rest (Int32.toNatClampNeg 1))) fun r_29 => if r_25 = r_29 then nm (x3_20 + 1 : Int32) fun x3_32 => fX0_locateOne_L32 x2 j88_7 v_field_logs v_field_powers v_rest v_spotted v_spots F32_21 x3_32 else some (0, v_spotted, v_spots)))))
def fX0_locateOne (v_size : Int32) (v_spotted : Int32) (v_rest : Nat → Int32) (v_spots : Nat → Int32) (v_field_logs : Nat → Int32) (v_field_powers : Nat → Int32) (x1 : Int32) (x2 : Int32) : Option (Int32 × Int32 × (Nat → Int32)) := if x2 < (2 : Int32) then some (0, v_spotted, v_spots) else if (4 : Int32) < x2 then some (0, v_spotted, v_spots) else og (ixb 0 4) (if (v_rest (Int32.toNatClampNeg 0)) = 0 then some (0, v_spotted, v_spots) else og (ixb 1 4) (if (v_rest (Int32.toNatClampNeg 1)) = 0 then some (0, v_spotted, v_spots) else jk (og (ixb 1 4) (og (ixb 0 4) (ob1 (fX2_over v_field_logs v_field_powers (v_rest (Int32.toNatClampNeg 1)) (v_rest (Int32.toNatClampNeg 0))) fun r_10 => ob1 (fX2_log v_field_logs r_10) fun r_12 => nm (((v_size - (1 : Int32)) - r_12) : Int32) fun x3_14 => if x3_14 < 0 then some (0, v_spotted, v_spots) else if ((UInt32.toInt32 (Int32.toUInt32 x1 >>> (Int32.toUInt32 x3_14 &&& Int32.toUInt32 31))) &&& (1 : Int32)) = (1 : Int32) then some (0, v_spotted, v_spots) else ob2 (fX0_addSpot v_spotted v_spots x3_14) fun v_spotted_17 v_spots_18 => some (1, v_spotted_17, v_spots_18)))) fun j88_7 => fX0_locateOne_L32 x2 j88_7 v_field_logs v_field_powers v_rest v_spotted v_spots FU 2))
set_option maxHeartbeats 4000000 in
set_option maxRecDepth 100000 in
theorem ct_X0_locateOne (l : Launch) (D : va_G) (cB cI cZ : ClassId) (tw : Nat) (a_this : Nat) (a_field : Nat) (a_sums : Nat) (a_spots : Nat) (a_locator : Nat) (a_rest : Nat) (a_field_powers : Nat) (a_field_logs : Nat) (v_size : Int32) (v_firstCheck : Int32) (v_spotted : Int32) (v_rest : Nat → Int32) (v_spots : Nat → Int32) (v_field_logs : Nat → Int32) (v_field_powers : Nat → Int32) (x1 : Int32) (x2 : Int32) (res : Int32 × Int32 × (Nat → Int32)) (h : fX0_locateOne v_size v_spotted v_rest v_spots v_field_logs v_field_powers x1 x2 = some res) : Ctr l yX0_locateOne cX0_locateOne 4 (some .boolean) (rmK 1 22) D (tyL cB cI cZ) tw [.ref a_this, .int x1, .int x2] (wX0_locateOne cB cI cZ a_this a_field a_sums a_spots a_locator a_rest a_field_powers a_field_logs v_size v_firstCheck v_spotted v_rest v_spots v_field_logs v_field_powers) (fun res : Int32 × Int32 × (Nat → Int32) => some (.int res.1)) (fun res : Int32 × Int32 × (Nat → Int32) => (wX0_locateOne cB cI cZ a_this a_field a_sums a_spots a_locator a_rest a_field_powers a_field_logs v_size v_firstCheck (res.2.1) v_rest (res.2.2) v_field_logs v_field_powers)) res := by
  refine ctr_of RX0 (by decide) rfl (Nat.le_of_ble_eq_true rfl) ?_
  intro p e s m below meth c A C hw ls hl
  have hx := C.1
  have hb := C.2.1
  have hl : lv_has ls 4 [(0, .ref a_this), (1, .int x1), (2, .int x2)] := hl
  unfold fX0_locateOne at h
  refine lv_iload_n (pc := 0) hx hb dX0_locateOne_0 rfl (lv_at hl 2 rfl) ?_
  refine lv_iconst (pc := 1) (v := 2) hx hb dX0_locateOne_1 (by decide) ?_
  refine lv_icmp_lt (pc := 2) (tgt := 28) hx hb dX0_locateOne_2 (by decide) (fun hc_1 => ?_) (fun hc_1 => ?_)
  · have h := ift hc_1 h
    refine lv_iconst (pc := 28) (v := 0) hx hb dX0_locateOne_28 (by decide) ?_
    exact x_zret (pc := 29) (v := (0, v_spotted, v_spots)) C (Option.some.inj h) rfl rfl hw dX0_locateOne_29
  · have h := iff' hc_1 h
    refine lv_iload_n (pc := 5) hx hb dX0_locateOne_5 rfl (lv_at hl 2 rfl) ?_
    refine lv_iconst (pc := 6) (v := 4) hx hb dX0_locateOne_6 (by decide) ?_
    refine lv_icmp_gt (pc := 7) (tgt := 28) hx hb dX0_locateOne_7 (by decide) (fun hc_2 => ?_) (fun hc_2 => ?_)
    · have h := ift hc_2 h
      refine lv_iconst (pc := 28) (v := 0) hx hb dX0_locateOne_28 (by decide) ?_
      exact x_zret (pc := 29) (v := (0, v_spotted, v_spots)) C (Option.some.inj h) rfl rfl hw dX0_locateOne_29
    · have h := iff' hc_2 h
      refine lv_aload_n (pc := 10) hx hb dX0_locateOne_10 rfl (lv_at hl 0 rfl) ?_
      refine gf_X0_21 (pc := 11) C hw 0 rfl rfl dX0_locateOne_11 ?_
      refine lv_iconst (pc := 14) (v := 0) hx hb dX0_locateOne_14 (by decide) ?_
      obtain ⟨hi_3, h⟩ := og_at h
      refine x_iald (pc := 15) C hw 2 rfl hi_3 dX0_locateOne_15 ?_
      refine lv_if_eq (pc := 16) (tgt := 28) hx hb dX0_locateOne_16 (by decide) (fun hc_4 => ?_) (fun hc_4 => ?_)
      · have h := ift hc_4 h
        refine lv_iconst (pc := 28) (v := 0) hx hb dX0_locateOne_28 (by decide) ?_
        exact x_zret (pc := 29) (v := (0, v_spotted, v_spots)) C (Option.some.inj h) rfl rfl hw dX0_locateOne_29
      · have h := iff' hc_4 h
        refine lv_aload_n (pc := 19) hx hb dX0_locateOne_19 rfl (lv_at hl 0 rfl) ?_
        refine gf_X0_21 (pc := 20) C hw 0 rfl rfl dX0_locateOne_20 ?_
        refine lv_iconst (pc := 23) (v := 1) hx hb dX0_locateOne_23 (by decide) ?_
        obtain ⟨hi_5, h⟩ := og_at h
        refine x_iald (pc := 24) C hw 2 rfl hi_5 dX0_locateOne_24 ?_
        refine lv_if_ne (pc := 25) (tgt := 30) hx hb dX0_locateOne_25 (by decide) (fun hc_6 => ?_) (fun hc_6 => ?_)
        · have h := iff' hc_6 h
          refine lv_iconst (pc := 30) (v := 2) hx hb dX0_locateOne_30 (by decide) ?_
          refine lv_istore_n (pc := 31) (lv' := [(3, .int 2), (0, .ref a_this), (1, .int x1), (2, .int x2)]) hx hb dX0_locateOne_31 rfl hl (by decide) rfl (fun ls hl => ?_)
          obtain ⟨j88_7, ej88_7, h⟩ := jk_at h
          have J88_7 : ∀  (ls : Array Slot) (H : Heap) (locs : List Loc), lv_has ls 4 [(0, .ref a_this), (1, .int x1)] → Wd D A s (wX0_locateOne cB cI cZ a_this a_field a_sums a_spots a_locator a_rest a_field_powers a_field_logs v_size v_firstCheck v_spotted v_rest v_spots v_field_logs v_field_powers) H locs → j88_7 = some res → W p l e (rmK 1 22) s m ([.ref a_this, .int x1, .int x2] : List Value).toArray below meth c H locs 0 0 (MQ below (QG D (tyL cB cI cZ) A (fun res : Int32 × Int32 × (Nat → Int32) => some (.int res.1)) (fun res : Int32 × Int32 × (Nat → Int32) => (wX0_locateOne cB cI cZ a_this a_field a_sums a_spots a_locator a_rest a_field_powers a_field_logs v_size v_firstCheck (res.2.1) v_rest (res.2.2) v_field_logs v_field_powers)) res) ([.ref a_this, .int x1, .int x2] : List Value).toArray s 0 0 A) (F0 m 88 ls []) := by
            intro  ls H locs hl hw h
            have h := k0_at ej88_7 h
            refine lv_aload_n (pc := 88) hx hb dX0_locateOne_88 rfl (lv_at hl 0 rfl) ?_
            refine gf_X0_28 (pc := 89) C hw 0 rfl rfl dX0_locateOne_89 ?_
            refine lv_iconst (pc := 92) (v := 1) hx hb dX0_locateOne_92 (by decide) ?_
            refine lv_isub (pc := 93) hx hb dX0_locateOne_93 ?_
            refine lv_aload_n (pc := 94) hx hb dX0_locateOne_94 rfl (lv_at hl 0 rfl) ?_
            refine gf_X0_24 (pc := 95) C hw 0 rfl rfl dX0_locateOne_95 ?_
            refine lv_aload_n (pc := 98) hx hb dX0_locateOne_98 rfl (lv_at hl 0 rfl) ?_
            refine gf_X0_24 (pc := 99) C hw 0 rfl rfl dX0_locateOne_99 ?_
            refine lv_aload_n (pc := 102) hx hb dX0_locateOne_102 rfl (lv_at hl 0 rfl) ?_
            refine gf_X0_21 (pc := 103) C hw 0 rfl rfl dX0_locateOne_103 ?_
            refine lv_iconst (pc := 106) (v := 1) hx hb dX0_locateOne_106 (by decide) ?_
            obtain ⟨hi_8, h⟩ := og_at h
            refine x_iald (pc := 107) C hw 2 rfl hi_8 dX0_locateOne_107 ?_
            refine lv_aload_n (pc := 108) hx hb dX0_locateOne_108 rfl (lv_at hl 0 rfl) ?_
            refine gf_X0_21 (pc := 109) C hw 0 rfl rfl dX0_locateOne_109 ?_
            refine lv_iconst (pc := 112) (v := 0) hx hb dX0_locateOne_112 (by decide) ?_
            obtain ⟨hi_9, h⟩ := og_at h
            refine x_iald (pc := 113) C hw 2 rfl hi_9 dX0_locateOne_113 ?_
            obtain ⟨r_10, hq_11, h⟩ := ob1_at h
            refine x_callV (pc := 114) (rest := [.ref a_field, .int (v_size - (1 : Int32))]) (stk := [.int r_10, .ref a_field, .int (v_size - (1 : Int32))]) (wX0_locateOne cB cI cZ a_this a_field a_sums a_spots a_locator a_rest a_field_powers a_field_logs v_size v_firstCheck v_spotted v_rest v_spots v_field_logs v_field_powers) C hw (ct_X2_over l D cB cI cZ tw a_field a_field_powers a_field_logs v_field_logs v_field_powers (v_rest (Int32.toNatClampNeg 1)) (v_rest (Int32.toNatClampNeg 0)) r_10 hq_11) cal_X2_over tw_419 (q0 := 1) rfl rfl [1, 4, 5] [0, 2, 3] 6 [oX0 a_this a_field v_size v_firstCheck a_sums a_spots v_spotted a_locator a_rest, (a_rest, .inl (cI, 4, .inl v_rest)), (a_spots, .inl (cI, 4, .inl v_spots))] rfl rfl rfl rfl rfl rfl rfl rfl rfl rfl rfl (Nat.le_of_ble_eq_true rfl) hl.1 ⟨Nat.le_of_ble_eq_true rfl, Nat.le_of_ble_eq_true rfl⟩ ⟨Nat.zero_le _, Nat.zero_le _⟩ dX0_locateOne_114 (fun H locs hw => ?_)
            obtain ⟨r_12, hq_13, h⟩ := ob1_at h
            refine x_callV (pc := 117) (rest := [.int (v_size - (1 : Int32))]) (stk := [.int r_12, .int (v_size - (1 : Int32))]) (wX0_locateOne cB cI cZ a_this a_field a_sums a_spots a_locator a_rest a_field_powers a_field_logs v_size v_firstCheck v_spotted v_rest v_spots v_field_logs v_field_powers) C hw (ct_X2_log l D cB cI cZ tw a_field a_field_powers a_field_logs v_field_logs r_10 r_12 hq_13) cal_X2_log tw_781 (q0 := 1) rfl rfl [1, 4] [0, 2, 3, 5] 6 [oX0 a_this a_field v_size v_firstCheck a_sums a_spots v_spotted a_locator a_rest, (a_rest, .inl (cI, 4, .inl v_rest)), (a_spots, .inl (cI, 4, .inl v_spots)), (a_field_powers, .inl (cI, 510, .inl v_field_powers))] rfl rfl rfl rfl rfl rfl rfl rfl rfl rfl rfl (Nat.le_of_ble_eq_true rfl) hl.1 ⟨Nat.le_of_ble_eq_true rfl, Nat.le_of_ble_eq_true rfl⟩ ⟨Nat.zero_le _, Nat.zero_le _⟩ dX0_locateOne_117 (fun H locs hw => ?_)
            refine lv_isub (pc := 120) hx hb dX0_locateOne_120 ?_
            refine lv_topi (pc := 121) (fun x3_14 ex3_14 => ?_)
            have h := nm_at ex3_14 h
            refine lv_istore_n (pc := 121) (lv' := [(3, .int x3_14), (0, .ref a_this), (1, .int x1)]) hx hb dX0_locateOne_121 rfl hl (by decide) rfl (fun ls hl => ?_)
            refine lv_iload_n (pc := 122) hx hb dX0_locateOne_122 rfl (lv_at hl 0 rfl) ?_
            refine lv_if_lt (pc := 123) (tgt := 135) hx hb dX0_locateOne_123 (by decide) (fun hc_15 => ?_) (fun hc_15 => ?_)
            · have h := ift hc_15 h
              refine lv_iconst (pc := 135) (v := 0) hx hb dX0_locateOne_135 (by decide) ?_
              exact x_zret (pc := 136) (v := (0, v_spotted, v_spots)) C (Option.some.inj h) rfl rfl hw dX0_locateOne_136
            · have h := iff' hc_15 h
              refine lv_iload_n (pc := 126) hx hb dX0_locateOne_126 rfl (lv_at hl 2 rfl) ?_
              refine lv_iload_n (pc := 127) hx hb dX0_locateOne_127 rfl (lv_at hl 0 rfl) ?_
              refine lv_iushr (pc := 128) hx hb dX0_locateOne_128 rfl ?_
              refine lv_iconst (pc := 129) (v := 1) hx hb dX0_locateOne_129 (by decide) ?_
              refine lv_iand (pc := 130) hx hb dX0_locateOne_130 ?_
              refine lv_iconst (pc := 131) (v := 1) hx hb dX0_locateOne_131 (by decide) ?_
              refine lv_icmp_ne (pc := 132) (tgt := 137) hx hb dX0_locateOne_132 (by decide) (fun hc_16 => ?_) (fun hc_16 => ?_)
              · have h := iff' hc_16 h
                refine lv_aload_n (pc := 137) hx hb dX0_locateOne_137 rfl (lv_at hl 1 rfl) ?_
                refine lv_iload_n (pc := 138) hx hb dX0_locateOne_138 rfl (lv_at hl 0 rfl) ?_
                obtain ⟨v_spotted_17, v_spots_18, hq_19, h⟩ := ob2_at h
                refine x_callV (pc := 139) (rest := []) (stk := []) (wX0_locateOne cB cI cZ a_this a_field a_sums a_spots a_locator a_rest a_field_powers a_field_logs v_size v_firstCheck v_spotted_17 v_rest v_spots_18 v_field_logs v_field_powers) C hw (ct_X0_addSpot l D cB cI cZ tw a_this a_field a_sums a_spots a_locator a_rest v_size v_firstCheck v_spotted v_spots x3_14 (v_spotted_17, v_spots_18) hq_19) cal_X0_addSpot tw_394 (q0 := 0) rfl rfl [0, 3] [1, 2, 4, 5] 6 [oX2 a_field a_field_powers a_field_logs, (a_rest, .inl (cI, 4, .inl v_rest)), (a_field_logs, .inl (cI, 256, .inl v_field_logs)), (a_field_powers, .inl (cI, 510, .inl v_field_powers))] rfl rfl rfl rfl rfl rfl rfl rfl rfl rfl rfl (Nat.le_of_ble_eq_true rfl) hl.1 ⟨Nat.le_of_ble_eq_true rfl, Nat.le_of_ble_eq_true rfl⟩ ⟨Nat.zero_le _, Nat.zero_le _⟩ dX0_locateOne_139 (fun H locs hw => ?_)
                refine lv_iconst (pc := 142) (v := 1) hx hb dX0_locateOne_142 (by decide) ?_
                exact x_zret (pc := 143) (v := (1, v_spotted_17, v_spots_18)) C (Option.some.inj h) rfl rfl hw dX0_locateOne_143
              · have h := ift hc_16 h
                refine lv_iconst (pc := 135) (v := 0) hx hb dX0_locateOne_135 (by decide) ?_
                exact x_zret (pc := 136) (v := (0, v_spotted, v_spots)) C (Option.some.inj h) rfl rfl hw dX0_locateOne_136
          have Lih32_21 : ∀ (F : Nat) (x3_20 : Int32) (ls : Array Slot) (H : Heap) (locs : List Loc), lv_has ls 4 [(3, .int x3_20), (0, .ref a_this), (1, .int x1), (2, .int x2)] → Wd D A s (wX0_locateOne cB cI cZ a_this a_field a_sums a_spots a_locator a_rest a_field_powers a_field_logs v_size v_firstCheck v_spotted v_rest v_spots v_field_logs v_field_powers) H locs → fX0_locateOne_L32 x2 j88_7 v_field_logs v_field_powers v_rest v_spotted v_spots F x3_20 = some res → W p l e (rmK 1 22) s m ([.ref a_this, .int x1, .int x2] : List Value).toArray below meth c H locs 0 0 (MQ below (QG D (tyL cB cI cZ) A (fun res : Int32 × Int32 × (Nat → Int32) => some (.int res.1)) (fun res : Int32 × Int32 × (Nat → Int32) => (wX0_locateOne cB cI cZ a_this a_field a_sums a_spots a_locator a_rest a_field_powers a_field_logs v_size v_firstCheck (res.2.1) v_rest (res.2.2) v_field_logs v_field_powers)) res) ([.ref a_this, .int x1, .int x2] : List Value).toArray s 0 0 A) (F0 m 32 ls []) := by
            intro F
            induction F with
            | zero => intro x3_20 ls H locs hl hw h; rw [fX0_locateOne_L32.eq_1] at h; cases h
            | succ F32_21 ih32_21 =>
              intro x3_20 ls H locs hl hw h
              rw [fX0_locateOne_L32.eq_2] at h
              refine lv_iload_n (pc := 32) hx hb dX0_locateOne_32 rfl (lv_at hl 0 rfl) ?_
              refine lv_iload_n (pc := 33) hx hb dX0_locateOne_33 rfl (lv_at hl 3 rfl) ?_
              refine lv_icmp_ge (pc := 34) (tgt := 88) hx hb dX0_locateOne_34 (by decide) (fun hc_22 => ?_) (fun hc_22 => ?_)
              · have h := ift hc_22 h
                exact J88_7  ls _ _ (lv_sub hl [1, 2] rfl) hw h
              · have h := iff' hc_22 h
                refine lv_aload_n (pc := 37) hx hb dX0_locateOne_37 rfl (lv_at hl 1 rfl) ?_
                refine gf_X0_24 (pc := 38) C hw 0 rfl rfl dX0_locateOne_38 ?_
                refine lv_aload_n (pc := 41) hx hb dX0_locateOne_41 rfl (lv_at hl 1 rfl) ?_
                refine gf_X0_21 (pc := 42) C hw 0 rfl rfl dX0_locateOne_42 ?_
                refine lv_iload_n (pc := 45) hx hb dX0_locateOne_45 rfl (lv_at hl 0 rfl) ?_
                obtain ⟨hi_23, h⟩ := og_at h
                refine x_iald (pc := 46) C hw 2 rfl hi_23 dX0_locateOne_46 ?_
                refine lv_aload_n (pc := 47) hx hb dX0_locateOne_47 rfl (lv_at hl 1 rfl) ?_
                refine gf_X0_21 (pc := 48) C hw 0 rfl rfl dX0_locateOne_48 ?_
                refine lv_iconst (pc := 51) (v := 0) hx hb dX0_locateOne_51 (by decide) ?_
                obtain ⟨hi_24, h⟩ := og_at h
                refine x_iald (pc := 52) C hw 2 rfl hi_24 dX0_locateOne_52 ?_
                obtain ⟨r_25, hq_26, h⟩ := ob1_at h
                refine x_callV (pc := 53) (rest := []) (stk := [.int r_25]) (wX0_locateOne cB cI cZ a_this a_field a_sums a_spots a_locator a_rest a_field_powers a_field_logs v_size v_firstCheck v_spotted v_rest v_spots v_field_logs v_field_powers) C hw (ct_X2_times l D cB cI cZ tw a_field a_field_powers a_field_logs v_field_logs v_field_powers (v_rest (Int32.toNatClampNeg x3_20)) (v_rest (Int32.toNatClampNeg 0)) r_25 hq_26) cal_X2_times tw_411 (q0 := 1) rfl rfl [1, 4, 5] [0, 2, 3] 6 [oX0 a_this a_field v_size v_firstCheck a_sums a_spots v_spotted a_locator a_rest, (a_rest, .inl (cI, 4, .inl v_rest)), (a_spots, .inl (cI, 4, .inl v_spots))] rfl rfl rfl rfl rfl rfl rfl rfl rfl rfl rfl (Nat.le_of_ble_eq_true rfl) hl.1 ⟨Nat.le_of_ble_eq_true rfl, Nat.le_of_ble_eq_true rfl⟩ ⟨Nat.zero_le _, Nat.zero_le _⟩ dX0_locateOne_53 (fun H locs hw => ?_)
                refine lv_aload_n (pc := 56) hx hb dX0_locateOne_56 rfl (lv_at hl 1 rfl) ?_
                refine gf_X0_24 (pc := 57) C hw 0 rfl rfl dX0_locateOne_57 ?_
                refine lv_aload_n (pc := 60) hx hb dX0_locateOne_60 rfl (lv_at hl 1 rfl) ?_
                refine gf_X0_21 (pc := 61) C hw 0 rfl rfl dX0_locateOne_61 ?_
                refine lv_iload_n (pc := 64) hx hb dX0_locateOne_64 rfl (lv_at hl 0 rfl) ?_
                refine lv_iconst (pc := 65) (v := 1) hx hb dX0_locateOne_65 (by decide) ?_
                refine lv_isub (pc := 66) hx hb dX0_locateOne_66 ?_
                obtain ⟨hi_27, h⟩ := og_at h
                refine x_iald (pc := 67) C hw 2 rfl hi_27 dX0_locateOne_67 ?_
                refine lv_aload_n (pc := 68) hx hb dX0_locateOne_68 rfl (lv_at hl 1 rfl) ?_
                refine gf_X0_21 (pc := 69) C hw 0 rfl rfl dX0_locateOne_69 ?_
                refine lv_iconst (pc := 72) (v := 1) hx hb dX0_locateOne_72 (by decide) ?_
                obtain ⟨hi_28, h⟩ := og_at h
                refine x_iald (pc := 73) C hw 2 rfl hi_28 dX0_locateOne_73 ?_
                obtain ⟨r_29, hq_30, h⟩ := ob1_at h
                refine x_callV (pc := 74) (rest := [.int r_25]) (stk := [.int r_29, .int r_25]) (wX0_locateOne cB cI cZ a_this a_field a_sums a_spots a_locator a_rest a_field_powers a_field_logs v_size v_firstCheck v_spotted v_rest v_spots v_field_logs v_field_powers) C hw (ct_X2_times l D cB cI cZ tw a_field a_field_powers a_field_logs v_field_logs v_field_powers (v_rest (Int32.toNatClampNeg (x3_20 - (1 : Int32)))) (v_rest (Int32.toNatClampNeg 1)) r_29 hq_30) cal_X2_times tw_411 (q0 := 1) rfl rfl [1, 4, 5] [0, 2, 3] 6 [oX0 a_this a_field v_size v_firstCheck a_sums a_spots v_spotted a_locator a_rest, (a_rest, .inl (cI, 4, .inl v_rest)), (a_spots, .inl (cI, 4, .inl v_spots))] rfl rfl rfl rfl rfl rfl rfl rfl rfl rfl rfl (Nat.le_of_ble_eq_true rfl) hl.1 ⟨Nat.le_of_ble_eq_true rfl, Nat.le_of_ble_eq_true rfl⟩ ⟨Nat.zero_le _, Nat.zero_le _⟩ dX0_locateOne_74 (fun H locs hw => ?_)
                refine lv_icmp_eq (pc := 77) (tgt := 82) hx hb dX0_locateOne_77 (by decide) (fun hc_31 => ?_) (fun hc_31 => ?_)
                · have h := ift hc_31 h
                  obtain ⟨x3_32, ex3_32⟩ : ∃ y : Int32, y = x3_20 + 1 := ⟨_, rfl⟩
                  have h := nm_at ex3_32 h
                  refine lv_iinc (pc := 82) (v := x3_32) (lv' := [(3, .int x3_32), (0, .ref a_this), (1, .int x1), (2, .int x2)]) hx hb dX0_locateOne_82 hl (k := 0) rfl (by rw [ex3_32]; rfl) (by decide) rfl (fun ls hl => ?_)
                  refine lv_goto (pc := 85) (tgt := 32) hx hb dX0_locateOne_85 (by decide) ?_
                  exact ih32_21 x3_32 ls _ _ (lv_sub hl [0, 1, 2, 3] rfl) hw h
                · have h := iff' hc_31 h
                  refine lv_iconst (pc := 80) (v := 0) hx hb dX0_locateOne_80 (by decide) ?_
                  exact x_zret (pc := 81) (v := (0, v_spotted, v_spots)) C (Option.some.inj h) rfl rfl hw dX0_locateOne_81
          exact Lih32_21 FU 2 ls _ _ (lv_sub hl [0, 1, 2, 3] rfl) hw h
        · have h := ift hc_6 h
          refine lv_iconst (pc := 28) (v := 0) hx hb dX0_locateOne_28 (by decide) ?_
          exact x_zret (pc := 29) (v := (0, v_spotted, v_spots)) C (Option.some.inj h) rfl rfl hw dX0_locateOne_29
def wX0_locateTwo (cB cI cZ : ClassId) (a_this : Nat) (a_field : Nat) (a_sums : Nat) (a_spots : Nat) (a_locator : Nat) (a_rest : Nat) (a_field_powers : Nat) (a_field_logs : Nat) (v_size : Int32) (v_firstCheck : Int32) (v_spotted : Int32) (v_spots : Nat → Int32) (v_sums : Nat → Int32) (v_field_logs : Nat → Int32) (v_field_powers : Nat → Int32) : va_W := [oX0 a_this a_field v_size v_firstCheck a_sums a_spots v_spotted a_locator a_rest, oX2 a_field a_field_powers a_field_logs, (a_spots, .inl (cI, 4, .inl v_spots)), (a_sums, .inl (cI, 4, .inl v_sums)), (a_field_logs, .inl (cI, 256, .inl v_field_logs)), (a_field_powers, .inl (cI, 510, .inl v_field_powers))]
def fX0_locateTwo_L145 (v_size : Int32) (j202_33 : Int32 → (Nat → Int32) → Option (Int32 × Int32 × (Nat → Int32))) (v_field_powers : Nat → Int32) (v_field_logs : Nat → Int32) (r_19 : Int32) (r_29 : Int32) : Nat → Int32 → Int32 → (Nat → Int32) → Option (Int32 × Int32 × (Nat → Int32))
  | 0, _, _, _ => none
  | F145_38 + 1, x4_35, v_spotted_36, v_spots_37 => if v_size ≤ x4_35 then j202_33 v_spotted_36 v_spots_37 else ob1 (fX2_power v_field_powers ((v_size - (1 : Int32)) - x4_35)) fun r_40 => ob1 (fX2_times v_field_logs v_field_powers (r_40 ^^^ r_19) r_40) fun r_42 => jk (fun (v_spotted_44 : Int32) (v_spots_45 : Nat → Int32) => nm (x4_35 + 1 : Int32) fun x4_47 => fX0_locateTwo_L145 v_size j202_33 v_field_powers v_field_logs r_19 r_29 F145_38 x4_47 v_spotted_44 v_spots_45) fun j196_46 => if (r_42 ^^^ r_29) = 0 then ob2 (fX0_addSpot v_spotted_36 v_spots_37 x4_35) fun v_spotted_49 v_spots_50 => j196_46 v_spotted_49 v_spots_50 else j196_46 v_spotted_36 v_spots_37
def fX0_locateTwo (v_size : Int32) (v_spotted : Int32) (v_spots : Nat → Int32) (v_sums : Nat → Int32) (v_field_logs : Nat → Int32) (v_field_powers : Nat → Int32) : Option (Int32 × Int32 × (Nat → Int32)) := og (ixb 1 4) (og (ixb 1 4) (ob1 (fX2_times v_field_logs v_field_powers (v_sums (Int32.toNatClampNeg 1)) (v_sums (Int32.toNatClampNeg 1))) fun r_3 => og (ixb 0 4) (og (ixb 2 4) (ob1 (fX2_times v_field_logs v_field_powers (v_sums (Int32.toNatClampNeg 0)) (v_sums (Int32.toNatClampNeg 2))) fun r_7 => nm ((r_3 ^^^ r_7) : Int32) fun x1_9 => if x1_9 = 0 then some (0, v_spotted, v_spots) else og (ixb 0 4) (og (ixb 3 4) (ob1 (fX2_times v_field_logs v_field_powers (v_sums (Int32.toNatClampNeg 0)) (v_sums (Int32.toNatClampNeg 3))) fun r_13 => og (ixb 1 4) (og (ixb 2 4) (ob1 (fX2_times v_field_logs v_field_powers (v_sums (Int32.toNatClampNeg 1)) (v_sums (Int32.toNatClampNeg 2))) fun r_17 => ob1 (fX2_over v_field_logs v_field_powers (r_13 ^^^ r_17) x1_9) fun r_19 => og (ixb 1 4) (og (ixb 3 4) (ob1 (fX2_times v_field_logs v_field_powers (v_sums (Int32.toNatClampNeg 1)) (v_sums (Int32.toNatClampNeg 3))) fun r_23 => og (ixb 2 4) (og (ixb 2 4) (ob1 (fX2_times v_field_logs v_field_powers (v_sums (Int32.toNatClampNeg 2)) (v_sums (Int32.toNatClampNeg 2))) fun r_27 => ob1 (fX2_over v_field_logs v_field_powers (r_23 ^^^ r_27) x1_9) fun r_29 => jk (fun (v_spotted_31 : Int32) (v_spots_32 : Nat → Int32) => if v_spotted_31 = (2 : Int32) then some (1, v_spotted_31, v_spots_32) else some (0, v_spotted_31, v_spots_32)) fun j202_33 => fX0_locateTwo_L145 v_size j202_33 v_field_powers v_field_logs r_19 r_29 FU 0 v_spotted v_spots))))))))))))
set_option maxHeartbeats 4000000 in
set_option maxRecDepth 100000 in
theorem ct_X0_locateTwo (l : Launch) (D : va_G) (cB cI cZ : ClassId) (tw : Nat) (a_this : Nat) (a_field : Nat) (a_sums : Nat) (a_spots : Nat) (a_locator : Nat) (a_rest : Nat) (a_field_powers : Nat) (a_field_logs : Nat) (v_size : Int32) (v_firstCheck : Int32) (v_spotted : Int32) (v_spots : Nat → Int32) (v_sums : Nat → Int32) (v_field_logs : Nat → Int32) (v_field_powers : Nat → Int32) (res : Int32 × Int32 × (Nat → Int32)) (h : fX0_locateTwo v_size v_spotted v_spots v_sums v_field_logs v_field_powers = some res) : Ctr l yX0_locateTwo cX0_locateTwo 6 (some .boolean) (rmK 1 22) D (tyL cB cI cZ) tw [.ref a_this] (wX0_locateTwo cB cI cZ a_this a_field a_sums a_spots a_locator a_rest a_field_powers a_field_logs v_size v_firstCheck v_spotted v_spots v_sums v_field_logs v_field_powers) (fun res : Int32 × Int32 × (Nat → Int32) => some (.int res.1)) (fun res : Int32 × Int32 × (Nat → Int32) => (wX0_locateTwo cB cI cZ a_this a_field a_sums a_spots a_locator a_rest a_field_powers a_field_logs v_size v_firstCheck (res.2.1) (res.2.2) v_sums v_field_logs v_field_powers)) res := by
  refine ctr_of RX0 (by decide) rfl (Nat.le_of_ble_eq_true rfl) ?_
  intro p e s m below meth c A C hw ls hl
  have hx := C.1
  have hb := C.2.1
  have hl : lv_has ls 6 [(0, .ref a_this)] := hl
  unfold fX0_locateTwo at h
  refine lv_aload_n (pc := 0) hx hb dX0_locateTwo_0 rfl (lv_at hl 0 rfl) ?_
  refine gf_X0_24 (pc := 1) C hw 0 rfl rfl dX0_locateTwo_1 ?_
  refine lv_aload_n (pc := 4) hx hb dX0_locateTwo_4 rfl (lv_at hl 0 rfl) ?_
  refine gf_X0_9 (pc := 5) C hw 0 rfl rfl dX0_locateTwo_5 ?_
  refine lv_iconst (pc := 8) (v := 1) hx hb dX0_locateTwo_8 (by decide) ?_
  obtain ⟨hi_1, h⟩ := og_at h
  refine x_iald (pc := 9) C hw 3 rfl hi_1 dX0_locateTwo_9 ?_
  refine lv_aload_n (pc := 10) hx hb dX0_locateTwo_10 rfl (lv_at hl 0 rfl) ?_
  refine gf_X0_9 (pc := 11) C hw 0 rfl rfl dX0_locateTwo_11 ?_
  refine lv_iconst (pc := 14) (v := 1) hx hb dX0_locateTwo_14 (by decide) ?_
  obtain ⟨hi_2, h⟩ := og_at h
  refine x_iald (pc := 15) C hw 3 rfl hi_2 dX0_locateTwo_15 ?_
  obtain ⟨r_3, hq_4, h⟩ := ob1_at h
  refine x_callV (pc := 16) (rest := []) (stk := [.int r_3]) (wX0_locateTwo cB cI cZ a_this a_field a_sums a_spots a_locator a_rest a_field_powers a_field_logs v_size v_firstCheck v_spotted v_spots v_sums v_field_logs v_field_powers) C hw (ct_X2_times l D cB cI cZ tw a_field a_field_powers a_field_logs v_field_logs v_field_powers (v_sums (Int32.toNatClampNeg 1)) (v_sums (Int32.toNatClampNeg 1)) r_3 hq_4) cal_X2_times tw_411 (q0 := 1) rfl rfl [1, 4, 5] [0, 2, 3] 6 [oX0 a_this a_field v_size v_firstCheck a_sums a_spots v_spotted a_locator a_rest, (a_spots, .inl (cI, 4, .inl v_spots)), (a_sums, .inl (cI, 4, .inl v_sums))] rfl rfl rfl rfl rfl rfl rfl rfl rfl rfl rfl (Nat.le_of_ble_eq_true rfl) hl.1 ⟨Nat.le_of_ble_eq_true rfl, Nat.le_of_ble_eq_true rfl⟩ ⟨Nat.zero_le _, Nat.zero_le _⟩ dX0_locateTwo_16 (fun H locs hw => ?_)
  refine lv_aload_n (pc := 19) hx hb dX0_locateTwo_19 rfl (lv_at hl 0 rfl) ?_
  refine gf_X0_24 (pc := 20) C hw 0 rfl rfl dX0_locateTwo_20 ?_
  refine lv_aload_n (pc := 23) hx hb dX0_locateTwo_23 rfl (lv_at hl 0 rfl) ?_
  refine gf_X0_9 (pc := 24) C hw 0 rfl rfl dX0_locateTwo_24 ?_
  refine lv_iconst (pc := 27) (v := 0) hx hb dX0_locateTwo_27 (by decide) ?_
  obtain ⟨hi_5, h⟩ := og_at h
  refine x_iald (pc := 28) C hw 3 rfl hi_5 dX0_locateTwo_28 ?_
  refine lv_aload_n (pc := 29) hx hb dX0_locateTwo_29 rfl (lv_at hl 0 rfl) ?_
  refine gf_X0_9 (pc := 30) C hw 0 rfl rfl dX0_locateTwo_30 ?_
  refine lv_iconst (pc := 33) (v := 2) hx hb dX0_locateTwo_33 (by decide) ?_
  obtain ⟨hi_6, h⟩ := og_at h
  refine x_iald (pc := 34) C hw 3 rfl hi_6 dX0_locateTwo_34 ?_
  obtain ⟨r_7, hq_8, h⟩ := ob1_at h
  refine x_callV (pc := 35) (rest := [.int r_3]) (stk := [.int r_7, .int r_3]) (wX0_locateTwo cB cI cZ a_this a_field a_sums a_spots a_locator a_rest a_field_powers a_field_logs v_size v_firstCheck v_spotted v_spots v_sums v_field_logs v_field_powers) C hw (ct_X2_times l D cB cI cZ tw a_field a_field_powers a_field_logs v_field_logs v_field_powers (v_sums (Int32.toNatClampNeg 0)) (v_sums (Int32.toNatClampNeg 2)) r_7 hq_8) cal_X2_times tw_411 (q0 := 1) rfl rfl [1, 4, 5] [0, 2, 3] 6 [oX0 a_this a_field v_size v_firstCheck a_sums a_spots v_spotted a_locator a_rest, (a_spots, .inl (cI, 4, .inl v_spots)), (a_sums, .inl (cI, 4, .inl v_sums))] rfl rfl rfl rfl rfl rfl rfl rfl rfl rfl rfl (Nat.le_of_ble_eq_true rfl) hl.1 ⟨Nat.le_of_ble_eq_true rfl, Nat.le_of_ble_eq_true rfl⟩ ⟨Nat.zero_le _, Nat.zero_le _⟩ dX0_locateTwo_35 (fun H locs hw => ?_)
  refine lv_ixor (pc := 38) hx hb dX0_locateTwo_38 ?_
  refine lv_topi (pc := 39) (fun x1_9 ex1_9 => ?_)
  have h := nm_at ex1_9 h
  refine lv_istore_n (pc := 39) (lv' := [(1, .int x1_9), (0, .ref a_this)]) hx hb dX0_locateTwo_39 rfl hl (by decide) rfl (fun ls hl => ?_)
  refine lv_iload_n (pc := 40) hx hb dX0_locateTwo_40 rfl (lv_at hl 0 rfl) ?_
  refine lv_if_ne (pc := 41) (tgt := 46) hx hb dX0_locateTwo_41 (by decide) (fun hc_10 => ?_) (fun hc_10 => ?_)
  · have h := iff' hc_10 h
    refine lv_aload_n (pc := 46) hx hb dX0_locateTwo_46 rfl (lv_at hl 1 rfl) ?_
    refine gf_X0_24 (pc := 47) C hw 0 rfl rfl dX0_locateTwo_47 ?_
    refine lv_aload_n (pc := 50) hx hb dX0_locateTwo_50 rfl (lv_at hl 1 rfl) ?_
    refine gf_X0_24 (pc := 51) C hw 0 rfl rfl dX0_locateTwo_51 ?_
    refine lv_aload_n (pc := 54) hx hb dX0_locateTwo_54 rfl (lv_at hl 1 rfl) ?_
    refine gf_X0_9 (pc := 55) C hw 0 rfl rfl dX0_locateTwo_55 ?_
    refine lv_iconst (pc := 58) (v := 0) hx hb dX0_locateTwo_58 (by decide) ?_
    obtain ⟨hi_11, h⟩ := og_at h
    refine x_iald (pc := 59) C hw 3 rfl hi_11 dX0_locateTwo_59 ?_
    refine lv_aload_n (pc := 60) hx hb dX0_locateTwo_60 rfl (lv_at hl 1 rfl) ?_
    refine gf_X0_9 (pc := 61) C hw 0 rfl rfl dX0_locateTwo_61 ?_
    refine lv_iconst (pc := 64) (v := 3) hx hb dX0_locateTwo_64 (by decide) ?_
    obtain ⟨hi_12, h⟩ := og_at h
    refine x_iald (pc := 65) C hw 3 rfl hi_12 dX0_locateTwo_65 ?_
    obtain ⟨r_13, hq_14, h⟩ := ob1_at h
    refine x_callV (pc := 66) (rest := [.ref a_field]) (stk := [.int r_13, .ref a_field]) (wX0_locateTwo cB cI cZ a_this a_field a_sums a_spots a_locator a_rest a_field_powers a_field_logs v_size v_firstCheck v_spotted v_spots v_sums v_field_logs v_field_powers) C hw (ct_X2_times l D cB cI cZ tw a_field a_field_powers a_field_logs v_field_logs v_field_powers (v_sums (Int32.toNatClampNeg 0)) (v_sums (Int32.toNatClampNeg 3)) r_13 hq_14) cal_X2_times tw_411 (q0 := 1) rfl rfl [1, 4, 5] [0, 2, 3] 6 [oX0 a_this a_field v_size v_firstCheck a_sums a_spots v_spotted a_locator a_rest, (a_spots, .inl (cI, 4, .inl v_spots)), (a_sums, .inl (cI, 4, .inl v_sums))] rfl rfl rfl rfl rfl rfl rfl rfl rfl rfl rfl (Nat.le_of_ble_eq_true rfl) hl.1 ⟨Nat.le_of_ble_eq_true rfl, Nat.le_of_ble_eq_true rfl⟩ ⟨Nat.zero_le _, Nat.zero_le _⟩ dX0_locateTwo_66 (fun H locs hw => ?_)
    refine lv_aload_n (pc := 69) hx hb dX0_locateTwo_69 rfl (lv_at hl 1 rfl) ?_
    refine gf_X0_24 (pc := 70) C hw 0 rfl rfl dX0_locateTwo_70 ?_
    refine lv_aload_n (pc := 73) hx hb dX0_locateTwo_73 rfl (lv_at hl 1 rfl) ?_
    refine gf_X0_9 (pc := 74) C hw 0 rfl rfl dX0_locateTwo_74 ?_
    refine lv_iconst (pc := 77) (v := 1) hx hb dX0_locateTwo_77 (by decide) ?_
    obtain ⟨hi_15, h⟩ := og_at h
    refine x_iald (pc := 78) C hw 3 rfl hi_15 dX0_locateTwo_78 ?_
    refine lv_aload_n (pc := 79) hx hb dX0_locateTwo_79 rfl (lv_at hl 1 rfl) ?_
    refine gf_X0_9 (pc := 80) C hw 0 rfl rfl dX0_locateTwo_80 ?_
    refine lv_iconst (pc := 83) (v := 2) hx hb dX0_locateTwo_83 (by decide) ?_
    obtain ⟨hi_16, h⟩ := og_at h
    refine x_iald (pc := 84) C hw 3 rfl hi_16 dX0_locateTwo_84 ?_
    obtain ⟨r_17, hq_18, h⟩ := ob1_at h
    refine x_callV (pc := 85) (rest := [.int r_13, .ref a_field]) (stk := [.int r_17, .int r_13, .ref a_field]) (wX0_locateTwo cB cI cZ a_this a_field a_sums a_spots a_locator a_rest a_field_powers a_field_logs v_size v_firstCheck v_spotted v_spots v_sums v_field_logs v_field_powers) C hw (ct_X2_times l D cB cI cZ tw a_field a_field_powers a_field_logs v_field_logs v_field_powers (v_sums (Int32.toNatClampNeg 1)) (v_sums (Int32.toNatClampNeg 2)) r_17 hq_18) cal_X2_times tw_411 (q0 := 1) rfl rfl [1, 4, 5] [0, 2, 3] 6 [oX0 a_this a_field v_size v_firstCheck a_sums a_spots v_spotted a_locator a_rest, (a_spots, .inl (cI, 4, .inl v_spots)), (a_sums, .inl (cI, 4, .inl v_sums))] rfl rfl rfl rfl rfl rfl rfl rfl rfl rfl rfl (Nat.le_of_ble_eq_true rfl) hl.1 ⟨Nat.le_of_ble_eq_true rfl, Nat.le_of_ble_eq_true rfl⟩ ⟨Nat.zero_le _, Nat.zero_le _⟩ dX0_locateTwo_85 (fun H locs hw => ?_)
    refine lv_ixor (pc := 88) hx hb dX0_locateTwo_88 ?_
    refine lv_iload_n (pc := 89) hx hb dX0_locateTwo_89 rfl (lv_at hl 0 rfl) ?_
    obtain ⟨r_19, hq_20, h⟩ := ob1_at h
    refine x_callV (pc := 90) (rest := []) (stk := [.int r_19]) (wX0_locateTwo cB cI cZ a_this a_field a_sums a_spots a_locator a_rest a_field_powers a_field_logs v_size v_firstCheck v_spotted v_spots v_sums v_field_logs v_field_powers) C hw (ct_X2_over l D cB cI cZ tw a_field a_field_powers a_field_logs v_field_logs v_field_powers (r_13 ^^^ r_17) x1_9 r_19 hq_20) cal_X2_over tw_419 (q0 := 1) rfl rfl [1, 4, 5] [0, 2, 3] 6 [oX0 a_this a_field v_size v_firstCheck a_sums a_spots v_spotted a_locator a_rest, (a_spots, .inl (cI, 4, .inl v_spots)), (a_sums, .inl (cI, 4, .inl v_sums))] rfl rfl rfl rfl rfl rfl rfl rfl rfl rfl rfl (Nat.le_of_ble_eq_true rfl) hl.1 ⟨Nat.le_of_ble_eq_true rfl, Nat.le_of_ble_eq_true rfl⟩ ⟨Nat.zero_le _, Nat.zero_le _⟩ dX0_locateTwo_90 (fun H locs hw => ?_)
    refine lv_istore_n (pc := 93) (lv' := [(2, .int r_19), (1, .int x1_9), (0, .ref a_this)]) hx hb dX0_locateTwo_93 rfl hl (by decide) rfl (fun ls hl => ?_)
    refine lv_aload_n (pc := 94) hx hb dX0_locateTwo_94 rfl (lv_at hl 2 rfl) ?_
    refine gf_X0_24 (pc := 95) C hw 0 rfl rfl dX0_locateTwo_95 ?_
    refine lv_aload_n (pc := 98) hx hb dX0_locateTwo_98 rfl (lv_at hl 2 rfl) ?_
    refine gf_X0_24 (pc := 99) C hw 0 rfl rfl dX0_locateTwo_99 ?_
    refine lv_aload_n (pc := 102) hx hb dX0_locateTwo_102 rfl (lv_at hl 2 rfl) ?_
    refine gf_X0_9 (pc := 103) C hw 0 rfl rfl dX0_locateTwo_103 ?_
    refine lv_iconst (pc := 106) (v := 1) hx hb dX0_locateTwo_106 (by decide) ?_
    obtain ⟨hi_21, h⟩ := og_at h
    refine x_iald (pc := 107) C hw 3 rfl hi_21 dX0_locateTwo_107 ?_
    refine lv_aload_n (pc := 108) hx hb dX0_locateTwo_108 rfl (lv_at hl 2 rfl) ?_
    refine gf_X0_9 (pc := 109) C hw 0 rfl rfl dX0_locateTwo_109 ?_
    refine lv_iconst (pc := 112) (v := 3) hx hb dX0_locateTwo_112 (by decide) ?_
    obtain ⟨hi_22, h⟩ := og_at h
    refine x_iald (pc := 113) C hw 3 rfl hi_22 dX0_locateTwo_113 ?_
    obtain ⟨r_23, hq_24, h⟩ := ob1_at h
    refine x_callV (pc := 114) (rest := [.ref a_field]) (stk := [.int r_23, .ref a_field]) (wX0_locateTwo cB cI cZ a_this a_field a_sums a_spots a_locator a_rest a_field_powers a_field_logs v_size v_firstCheck v_spotted v_spots v_sums v_field_logs v_field_powers) C hw (ct_X2_times l D cB cI cZ tw a_field a_field_powers a_field_logs v_field_logs v_field_powers (v_sums (Int32.toNatClampNeg 1)) (v_sums (Int32.toNatClampNeg 3)) r_23 hq_24) cal_X2_times tw_411 (q0 := 1) rfl rfl [1, 4, 5] [0, 2, 3] 6 [oX0 a_this a_field v_size v_firstCheck a_sums a_spots v_spotted a_locator a_rest, (a_spots, .inl (cI, 4, .inl v_spots)), (a_sums, .inl (cI, 4, .inl v_sums))] rfl rfl rfl rfl rfl rfl rfl rfl rfl rfl rfl (Nat.le_of_ble_eq_true rfl) hl.1 ⟨Nat.le_of_ble_eq_true rfl, Nat.le_of_ble_eq_true rfl⟩ ⟨Nat.zero_le _, Nat.zero_le _⟩ dX0_locateTwo_114 (fun H locs hw => ?_)
    refine lv_aload_n (pc := 117) hx hb dX0_locateTwo_117 rfl (lv_at hl 2 rfl) ?_
    refine gf_X0_24 (pc := 118) C hw 0 rfl rfl dX0_locateTwo_118 ?_
    refine lv_aload_n (pc := 121) hx hb dX0_locateTwo_121 rfl (lv_at hl 2 rfl) ?_
    refine gf_X0_9 (pc := 122) C hw 0 rfl rfl dX0_locateTwo_122 ?_
    refine lv_iconst (pc := 125) (v := 2) hx hb dX0_locateTwo_125 (by decide) ?_
    obtain ⟨hi_25, h⟩ := og_at h
    refine x_iald (pc := 126) C hw 3 rfl hi_25 dX0_locateTwo_126 ?_
    refine lv_aload_n (pc := 127) hx hb dX0_locateTwo_127 rfl (lv_at hl 2 rfl) ?_
    refine gf_X0_9 (pc := 128) C hw 0 rfl rfl dX0_locateTwo_128 ?_
    refine lv_iconst (pc := 131) (v := 2) hx hb dX0_locateTwo_131 (by decide) ?_
    obtain ⟨hi_26, h⟩ := og_at h
    refine x_iald (pc := 132) C hw 3 rfl hi_26 dX0_locateTwo_132 ?_
    obtain ⟨r_27, hq_28, h⟩ := ob1_at h
    refine x_callV (pc := 133) (rest := [.int r_23, .ref a_field]) (stk := [.int r_27, .int r_23, .ref a_field]) (wX0_locateTwo cB cI cZ a_this a_field a_sums a_spots a_locator a_rest a_field_powers a_field_logs v_size v_firstCheck v_spotted v_spots v_sums v_field_logs v_field_powers) C hw (ct_X2_times l D cB cI cZ tw a_field a_field_powers a_field_logs v_field_logs v_field_powers (v_sums (Int32.toNatClampNeg 2)) (v_sums (Int32.toNatClampNeg 2)) r_27 hq_28) cal_X2_times tw_411 (q0 := 1) rfl rfl [1, 4, 5] [0, 2, 3] 6 [oX0 a_this a_field v_size v_firstCheck a_sums a_spots v_spotted a_locator a_rest, (a_spots, .inl (cI, 4, .inl v_spots)), (a_sums, .inl (cI, 4, .inl v_sums))] rfl rfl rfl rfl rfl rfl rfl rfl rfl rfl rfl (Nat.le_of_ble_eq_true rfl) hl.1 ⟨Nat.le_of_ble_eq_true rfl, Nat.le_of_ble_eq_true rfl⟩ ⟨Nat.zero_le _, Nat.zero_le _⟩ dX0_locateTwo_133 (fun H locs hw => ?_)
    refine lv_ixor (pc := 136) hx hb dX0_locateTwo_136 ?_
    refine lv_iload_n (pc := 137) hx hb dX0_locateTwo_137 rfl (lv_at hl 1 rfl) ?_
    obtain ⟨r_29, hq_30, h⟩ := ob1_at h
    refine x_callV (pc := 138) (rest := []) (stk := [.int r_29]) (wX0_locateTwo cB cI cZ a_this a_field a_sums a_spots a_locator a_rest a_field_powers a_field_logs v_size v_firstCheck v_spotted v_spots v_sums v_field_logs v_field_powers) C hw (ct_X2_over l D cB cI cZ tw a_field a_field_powers a_field_logs v_field_logs v_field_powers (r_23 ^^^ r_27) x1_9 r_29 hq_30) cal_X2_over tw_419 (q0 := 1) rfl rfl [1, 4, 5] [0, 2, 3] 6 [oX0 a_this a_field v_size v_firstCheck a_sums a_spots v_spotted a_locator a_rest, (a_spots, .inl (cI, 4, .inl v_spots)), (a_sums, .inl (cI, 4, .inl v_sums))] rfl rfl rfl rfl rfl rfl rfl rfl rfl rfl rfl (Nat.le_of_ble_eq_true rfl) hl.1 ⟨Nat.le_of_ble_eq_true rfl, Nat.le_of_ble_eq_true rfl⟩ ⟨Nat.zero_le _, Nat.zero_le _⟩ dX0_locateTwo_138 (fun H locs hw => ?_)
    refine lv_istore_n (pc := 141) (lv' := [(3, .int r_29), (2, .int r_19), (1, .int x1_9), (0, .ref a_this)]) hx hb dX0_locateTwo_141 rfl hl (by decide) rfl (fun ls hl => ?_)
    refine lv_iconst (pc := 142) (v := 0) hx hb dX0_locateTwo_142 (by decide) ?_
    refine lv_istore (pc := 143) (lv' := [(4, .int 0), (3, .int r_29), (2, .int r_19), (1, .int x1_9), (0, .ref a_this)]) hx hb dX0_locateTwo_143 hl (by decide) rfl (fun ls hl => ?_)
    obtain ⟨j202_33, ej202_33, h⟩ := jk_at h
    have J202_33 : ∀ (v_spotted_31 : Int32) (v_spots_32 : Nat → Int32) (ls : Array Slot) (H : Heap) (locs : List Loc), lv_has ls 6 [(0, .ref a_this)] → Wd D A s (wX0_locateTwo cB cI cZ a_this a_field a_sums a_spots a_locator a_rest a_field_powers a_field_logs v_size v_firstCheck v_spotted_31 v_spots_32 v_sums v_field_logs v_field_powers) H locs → j202_33 v_spotted_31 v_spots_32 = some res → W p l e (rmK 1 22) s m ([.ref a_this] : List Value).toArray below meth c H locs 0 0 (MQ below (QG D (tyL cB cI cZ) A (fun res : Int32 × Int32 × (Nat → Int32) => some (.int res.1)) (fun res : Int32 × Int32 × (Nat → Int32) => (wX0_locateTwo cB cI cZ a_this a_field a_sums a_spots a_locator a_rest a_field_powers a_field_logs v_size v_firstCheck (res.2.1) (res.2.2) v_sums v_field_logs v_field_powers)) res) ([.ref a_this] : List Value).toArray s 0 0 A) (F0 m 202 ls []) := by
      intro v_spotted_31 v_spots_32 ls H locs hl hw h
      have h := k2_at ej202_33 h
      refine lv_aload_n (pc := 202) hx hb dX0_locateTwo_202 rfl (lv_at hl 0 rfl) ?_
      refine gf_X0_39 (pc := 203) C hw 0 rfl rfl dX0_locateTwo_203 ?_
      refine lv_iconst (pc := 206) (v := 2) hx hb dX0_locateTwo_206 (by decide) ?_
      refine lv_icmp_ne (pc := 207) (tgt := 214) hx hb dX0_locateTwo_207 (by decide) (fun hc_34 => ?_) (fun hc_34 => ?_)
      · have h := iff' hc_34 h
        refine lv_iconst (pc := 214) (v := 0) hx hb dX0_locateTwo_214 (by decide) ?_
        exact x_zret (pc := 215) (v := (0, v_spotted_31, v_spots_32)) C (Option.some.inj h) rfl rfl hw dX0_locateTwo_215
      · have h := ift hc_34 h
        refine lv_iconst (pc := 210) (v := 1) hx hb dX0_locateTwo_210 (by decide) ?_
        refine lv_goto (pc := 211) (tgt := 215) hx hb dX0_locateTwo_211 (by decide) ?_
        exact x_zret (pc := 215) (v := (1, v_spotted_31, v_spots_32)) C (Option.some.inj h) rfl rfl hw dX0_locateTwo_215
    have Lih145_38 : ∀ (F : Nat) (x4_35 : Int32) (v_spotted_36 : Int32) (v_spots_37 : Nat → Int32) (ls : Array Slot) (H : Heap) (locs : List Loc), lv_has ls 6 [(4, .int x4_35), (3, .int r_29), (2, .int r_19), (0, .ref a_this)] → Wd D A s (wX0_locateTwo cB cI cZ a_this a_field a_sums a_spots a_locator a_rest a_field_powers a_field_logs v_size v_firstCheck v_spotted_36 v_spots_37 v_sums v_field_logs v_field_powers) H locs → fX0_locateTwo_L145 v_size j202_33 v_field_powers v_field_logs r_19 r_29 F x4_35 v_spotted_36 v_spots_37 = some res → W p l e (rmK 1 22) s m ([.ref a_this] : List Value).toArray below meth c H locs 0 0 (MQ below (QG D (tyL cB cI cZ) A (fun res : Int32 × Int32 × (Nat → Int32) => some (.int res.1)) (fun res : Int32 × Int32 × (Nat → Int32) => (wX0_locateTwo cB cI cZ a_this a_field a_sums a_spots a_locator a_rest a_field_powers a_field_logs v_size v_firstCheck (res.2.1) (res.2.2) v_sums v_field_logs v_field_powers)) res) ([.ref a_this] : List Value).toArray s 0 0 A) (F0 m 145 ls []) := by
      intro F
      induction F with
      | zero => intro x4_35 v_spotted_36 v_spots_37 ls H locs hl hw h; rw [fX0_locateTwo_L145.eq_1] at h; cases h
      | succ F145_38 ih145_38 =>
        intro x4_35 v_spotted_36 v_spots_37 ls H locs hl hw h
        rw [fX0_locateTwo_L145.eq_2] at h
        refine lv_iload (pc := 145) hx hb dX0_locateTwo_145 (lv_at hl 0 rfl) ?_
        refine lv_aload_n (pc := 147) hx hb dX0_locateTwo_147 rfl (lv_at hl 3 rfl) ?_
        refine gf_X0_28 (pc := 148) C hw 0 rfl rfl dX0_locateTwo_148 ?_
        refine lv_icmp_ge (pc := 151) (tgt := 202) hx hb dX0_locateTwo_151 (by decide) (fun hc_39 => ?_) (fun hc_39 => ?_)
        · have h := ift hc_39 h
          exact J202_33 v_spotted_36 v_spots_37 ls _ _ (lv_sub hl [3] rfl) hw h
        · have h := iff' hc_39 h
          refine lv_aload_n (pc := 154) hx hb dX0_locateTwo_154 rfl (lv_at hl 3 rfl) ?_
          refine gf_X0_24 (pc := 155) C hw 0 rfl rfl dX0_locateTwo_155 ?_
          refine lv_aload_n (pc := 158) hx hb dX0_locateTwo_158 rfl (lv_at hl 3 rfl) ?_
          refine gf_X0_28 (pc := 159) C hw 0 rfl rfl dX0_locateTwo_159 ?_
          refine lv_iconst (pc := 162) (v := 1) hx hb dX0_locateTwo_162 (by decide) ?_
          refine lv_isub (pc := 163) hx hb dX0_locateTwo_163 ?_
          refine lv_iload (pc := 164) hx hb dX0_locateTwo_164 (lv_at hl 0 rfl) ?_
          refine lv_isub (pc := 166) hx hb dX0_locateTwo_166 ?_
          obtain ⟨r_40, hq_41, h⟩ := ob1_at h
          refine x_callV (pc := 167) (rest := []) (stk := [.int r_40]) (wX0_locateTwo cB cI cZ a_this a_field a_sums a_spots a_locator a_rest a_field_powers a_field_logs v_size v_firstCheck v_spotted_36 v_spots_37 v_sums v_field_logs v_field_powers) C hw (ct_X2_power l D cB cI cZ tw a_field a_field_powers a_field_logs v_field_powers ((v_size - (1 : Int32)) - x4_35) r_40 hq_41) cal_X2_power tw_407 (q0 := 1) rfl rfl [1, 5] [0, 2, 3, 4] 6 [oX0 a_this a_field v_size v_firstCheck a_sums a_spots v_spotted_36 a_locator a_rest, (a_spots, .inl (cI, 4, .inl v_spots_37)), (a_sums, .inl (cI, 4, .inl v_sums)), (a_field_logs, .inl (cI, 256, .inl v_field_logs))] rfl rfl rfl rfl rfl rfl rfl rfl rfl rfl rfl (Nat.le_of_ble_eq_true rfl) hl.1 ⟨Nat.le_of_ble_eq_true rfl, Nat.le_of_ble_eq_true rfl⟩ ⟨Nat.zero_le _, Nat.zero_le _⟩ dX0_locateTwo_167 (fun H locs hw => ?_)
          refine lv_istore (pc := 170) (lv' := [(5, .int r_40), (4, .int x4_35), (3, .int r_29), (2, .int r_19), (0, .ref a_this)]) hx hb dX0_locateTwo_170 hl (by decide) rfl (fun ls hl => ?_)
          refine lv_aload_n (pc := 172) hx hb dX0_locateTwo_172 rfl (lv_at hl 4 rfl) ?_
          refine gf_X0_24 (pc := 173) C hw 0 rfl rfl dX0_locateTwo_173 ?_
          refine lv_iload (pc := 176) hx hb dX0_locateTwo_176 (lv_at hl 0 rfl) ?_
          refine lv_iload_n (pc := 178) hx hb dX0_locateTwo_178 rfl (lv_at hl 3 rfl) ?_
          refine lv_ixor (pc := 179) hx hb dX0_locateTwo_179 ?_
          refine lv_iload (pc := 180) hx hb dX0_locateTwo_180 (lv_at hl 0 rfl) ?_
          obtain ⟨r_42, hq_43, h⟩ := ob1_at h
          refine x_callV (pc := 182) (rest := []) (stk := [.int r_42]) (wX0_locateTwo cB cI cZ a_this a_field a_sums a_spots a_locator a_rest a_field_powers a_field_logs v_size v_firstCheck v_spotted_36 v_spots_37 v_sums v_field_logs v_field_powers) C hw (ct_X2_times l D cB cI cZ tw a_field a_field_powers a_field_logs v_field_logs v_field_powers (r_40 ^^^ r_19) r_40 r_42 hq_43) cal_X2_times tw_411 (q0 := 1) rfl rfl [1, 4, 5] [0, 2, 3] 6 [oX0 a_this a_field v_size v_firstCheck a_sums a_spots v_spotted_36 a_locator a_rest, (a_spots, .inl (cI, 4, .inl v_spots_37)), (a_sums, .inl (cI, 4, .inl v_sums))] rfl rfl rfl rfl rfl rfl rfl rfl rfl rfl rfl (Nat.le_of_ble_eq_true rfl) hl.1 ⟨Nat.le_of_ble_eq_true rfl, Nat.le_of_ble_eq_true rfl⟩ ⟨Nat.zero_le _, Nat.zero_le _⟩ dX0_locateTwo_182 (fun H locs hw => ?_)
          refine lv_iload_n (pc := 185) hx hb dX0_locateTwo_185 rfl (lv_at hl 2 rfl) ?_
          refine lv_ixor (pc := 186) hx hb dX0_locateTwo_186 ?_
          obtain ⟨j196_46, ej196_46, h⟩ := jk_at h
          have J196_46 : ∀ (v_spotted_44 : Int32) (v_spots_45 : Nat → Int32) (ls : Array Slot) (H : Heap) (locs : List Loc), lv_has ls 6 [(4, .int x4_35), (3, .int r_29), (2, .int r_19), (0, .ref a_this)] → Wd D A s (wX0_locateTwo cB cI cZ a_this a_field a_sums a_spots a_locator a_rest a_field_powers a_field_logs v_size v_firstCheck v_spotted_44 v_spots_45 v_sums v_field_logs v_field_powers) H locs → j196_46 v_spotted_44 v_spots_45 = some res → W p l e (rmK 1 22) s m ([.ref a_this] : List Value).toArray below meth c H locs 0 0 (MQ below (QG D (tyL cB cI cZ) A (fun res : Int32 × Int32 × (Nat → Int32) => some (.int res.1)) (fun res : Int32 × Int32 × (Nat → Int32) => (wX0_locateTwo cB cI cZ a_this a_field a_sums a_spots a_locator a_rest a_field_powers a_field_logs v_size v_firstCheck (res.2.1) (res.2.2) v_sums v_field_logs v_field_powers)) res) ([.ref a_this] : List Value).toArray s 0 0 A) (F0 m 196 ls []) := by
            intro v_spotted_44 v_spots_45 ls H locs hl hw h
            have h := k2_at ej196_46 h
            obtain ⟨x4_47, ex4_47⟩ : ∃ y : Int32, y = x4_35 + 1 := ⟨_, rfl⟩
            have h := nm_at ex4_47 h
            refine lv_iinc (pc := 196) (v := x4_47) (lv' := [(4, .int x4_47), (3, .int r_29), (2, .int r_19), (0, .ref a_this)]) hx hb dX0_locateTwo_196 hl (k := 0) rfl (by rw [ex4_47]; rfl) (by decide) rfl (fun ls hl => ?_)
            refine lv_goto (pc := 199) (tgt := 145) hx hb dX0_locateTwo_199 (by decide) ?_
            exact ih145_38 x4_47 v_spotted_44 v_spots_45 ls _ _ (lv_sub hl [0, 1, 2, 3] rfl) hw h
          refine lv_if_ne (pc := 187) (tgt := 196) hx hb dX0_locateTwo_187 (by decide) (fun hc_48 => ?_) (fun hc_48 => ?_)
          · have h := iff' hc_48 h
            exact J196_46 v_spotted_36 v_spots_37 ls _ _ (lv_sub hl [1, 2, 3, 4] rfl) hw h
          · have h := ift hc_48 h
            refine lv_aload_n (pc := 190) hx hb dX0_locateTwo_190 rfl (lv_at hl 4 rfl) ?_
            refine lv_iload (pc := 191) hx hb dX0_locateTwo_191 (lv_at hl 1 rfl) ?_
            obtain ⟨v_spotted_49, v_spots_50, hq_51, h⟩ := ob2_at h
            refine x_callV (pc := 193) (rest := []) (stk := []) (wX0_locateTwo cB cI cZ a_this a_field a_sums a_spots a_locator a_rest a_field_powers a_field_logs v_size v_firstCheck v_spotted_49 v_spots_50 v_sums v_field_logs v_field_powers) C hw (ct_X0_addSpot l D cB cI cZ tw a_this a_field a_sums a_spots a_locator a_rest v_size v_firstCheck v_spotted_36 v_spots_37 x4_35 (v_spotted_49, v_spots_50) hq_51) cal_X0_addSpot tw_394 (q0 := 0) rfl rfl [0, 2] [1, 3, 4, 5] 6 [oX2 a_field a_field_powers a_field_logs, (a_sums, .inl (cI, 4, .inl v_sums)), (a_field_logs, .inl (cI, 256, .inl v_field_logs)), (a_field_powers, .inl (cI, 510, .inl v_field_powers))] rfl rfl rfl rfl rfl rfl rfl rfl rfl rfl rfl (Nat.le_of_ble_eq_true rfl) hl.1 ⟨Nat.le_of_ble_eq_true rfl, Nat.le_of_ble_eq_true rfl⟩ ⟨Nat.zero_le _, Nat.zero_le _⟩ dX0_locateTwo_193 (fun H locs hw => ?_)
            exact J196_46 v_spotted_49 v_spots_50 ls _ _ (lv_sub hl [1, 2, 3, 4] rfl) hw h
    exact Lih145_38 FU 0 v_spotted v_spots ls _ _ (lv_sub hl [0, 1, 2, 4] rfl) hw h
  · have h := ift hc_10 h
    refine lv_iconst (pc := 44) (v := 0) hx hb dX0_locateTwo_44 (by decide) ?_
    exact x_zret (pc := 45) (v := (0, v_spotted, v_spots)) C (Option.some.inj h) rfl rfl hw dX0_locateTwo_45
def wX0_locate (cB cI cZ : ClassId) (a_this : Nat) (a_field : Nat) (a_sums : Nat) (a_spots : Nat) (a_locator : Nat) (a_rest : Nat) (a_field_powers : Nat) (a_field_logs : Nat) (v_size : Int32) (v_firstCheck : Int32) (v_spotted : Int32) (v_locator : Nat → Int32) (v_rest : Nat → Int32) (v_spots : Nat → Int32) (v_sums : Nat → Int32) (v_field_logs : Nat → Int32) (v_field_powers : Nat → Int32) : va_W := [oX0 a_this a_field v_size v_firstCheck a_sums a_spots v_spotted a_locator a_rest, oX2 a_field a_field_powers a_field_logs, (a_locator, .inl (cI, 5, .inl v_locator)), (a_rest, .inl (cI, 4, .inl v_rest)), (a_spots, .inl (cI, 4, .inl v_spots)), (a_sums, .inl (cI, 4, .inl v_sums)), (a_field_logs, .inl (cI, 256, .inl v_field_logs)), (a_field_powers, .inl (cI, 510, .inl v_field_powers))]
def fX0_locate_L12 (r_1 : Int32) (j60_6 : Int32 → (Nat → Int32) → Option (Int32 × Int32 × (Nat → Int32) × (Nat → Int32) × (Nat → Int32))) (v_locator_2 : Nat → Int32) (v_sums : Nat → Int32) (v_field_logs : Nat → Int32) (v_field_powers : Nat → Int32) : Nat → Int32 → Int32 → (Nat → Int32) → Option (Int32 × Int32 × (Nat → Int32) × (Nat → Int32) × (Nat → Int32))
  | 0, _, _, _ => none
  | F12_26 + 1, x5_23, x4_24, v_rest_25 => if ((4 : Int32) - r_1) ≤ x5_23 then j60_6 x4_24 v_rest_25 else ob1 (fX0_without v_locator_2 v_sums v_field_logs v_field_powers r_1 x5_23) fun r_28 => og (ixb x5_23 4) (nm (upd v_rest_25 (Int32.toNatClampNeg x5_23) r_28) fun v_rest_31 => og (ixb x5_23 4) (jk (fun (t_33 : Int32) => nm ((x4_24 &&& t_33) : Int32) fun x4_35 => nm (x5_23 + 1 : Int32) fun x5_36 => fX0_locate_L12 r_1 j60_6 v_locator_2 v_sums v_field_logs v_field_powers F12_26 x5_36 x4_35 v_rest_31) fun j51_34 => if (v_rest_31 (Int32.toNatClampNeg x5_23)) = 0 then j51_34 1 else j51_34 0))
def fX0_locate (v_size : Int32) (v_spotted : Int32) (v_locator : Nat → Int32) (v_rest : Nat → Int32) (v_spots : Nat → Int32) (v_sums : Nat → Int32) (v_field_logs : Nat → Int32) (v_field_powers : Nat → Int32) (x1 : Int32) (x2 : Int32) : Option (Int32 × Int32 × (Nat → Int32) × (Nat → Int32) × (Nat → Int32)) := ob2 (fX0_spread v_size v_spotted v_locator v_spots v_field_logs v_field_powers (-1)) fun r_1 v_locator_2 => jk (fun (x4_4 : Int32) (v_rest_5 : Nat → Int32) => if x4_4 = 0 then jk (fun (v_spotted_8 : Int32) (v_spots_9 : Nat → Int32) => if x2 < (2 : Int32) then some (0, v_spotted_8, v_locator_2, v_rest_5, v_spots_9) else ob3 (fX0_locateTwo v_size v_spotted_8 v_spots_9 v_sums v_field_logs v_field_powers) fun r_12 v_spotted_13 v_spots_14 => if r_12 = 0 then some (0, v_spotted_13, v_locator_2, v_rest_5, v_spots_14) else some (1, v_spotted_13, v_locator_2, v_rest_5, v_spots_14)) fun j83_10 => if x2 < (1 : Int32) then j83_10 v_spotted v_spots else ob3 (fX0_locateOne v_size v_spotted v_rest_5 v_spots v_field_logs v_field_powers x1 ((4 : Int32) - r_1)) fun r_18 v_spotted_19 v_spots_20 => if r_18 = 0 then j83_10 v_spotted_19 v_spots_20 else some (1, v_spotted_19, v_locator_2, v_rest_5, v_spots_20) else some (1, v_spotted, v_locator_2, v_rest_5, v_spots)) fun j60_6 => fX0_locate_L12 r_1 j60_6 v_locator_2 v_sums v_field_logs v_field_powers FU 0 1 v_rest
set_option maxHeartbeats 4000000 in
set_option maxRecDepth 100000 in
theorem ct_X0_locate (l : Launch) (D : va_G) (cB cI cZ : ClassId) (tw : Nat) (a_this : Nat) (a_field : Nat) (a_sums : Nat) (a_spots : Nat) (a_locator : Nat) (a_rest : Nat) (a_field_powers : Nat) (a_field_logs : Nat) (v_size : Int32) (v_firstCheck : Int32) (v_spotted : Int32) (v_locator : Nat → Int32) (v_rest : Nat → Int32) (v_spots : Nat → Int32) (v_sums : Nat → Int32) (v_field_logs : Nat → Int32) (v_field_powers : Nat → Int32) (x1 : Int32) (x2 : Int32) (res : Int32 × Int32 × (Nat → Int32) × (Nat → Int32) × (Nat → Int32)) (h : fX0_locate v_size v_spotted v_locator v_rest v_spots v_sums v_field_logs v_field_powers x1 x2 = some res) : Ctr l yX0_locate cX0_locate 6 (some .boolean) (rmK 2 48) D (tyL cB cI cZ) tw [.ref a_this, .int x1, .int x2] (wX0_locate cB cI cZ a_this a_field a_sums a_spots a_locator a_rest a_field_powers a_field_logs v_size v_firstCheck v_spotted v_locator v_rest v_spots v_sums v_field_logs v_field_powers) (fun res : Int32 × Int32 × (Nat → Int32) × (Nat → Int32) × (Nat → Int32) => some (.int res.1)) (fun res : Int32 × Int32 × (Nat → Int32) × (Nat → Int32) × (Nat → Int32) => (wX0_locate cB cI cZ a_this a_field a_sums a_spots a_locator a_rest a_field_powers a_field_logs v_size v_firstCheck (res.2.1) (res.2.2.1) (res.2.2.2.1) (res.2.2.2.2) v_sums v_field_logs v_field_powers)) res := by
  refine ctr_of RX0 (by decide) rfl (Nat.le_of_ble_eq_true rfl) ?_
  intro p e s m below meth c A C hw ls hl
  have hx := C.1
  have hb := C.2.1
  have hl : lv_has ls 6 [(0, .ref a_this), (1, .int x1), (2, .int x2)] := hl
  unfold fX0_locate at h
  refine lv_aload_n (pc := 0) hx hb dX0_locate_0 rfl (lv_at hl 0 rfl) ?_
  refine lv_iconst (pc := 1) (v := (-1)) hx hb dX0_locate_1 (by decide) ?_
  obtain ⟨r_1, v_locator_2, hq_3, h⟩ := ob2_at h
  refine x_callV (pc := 2) (rest := []) (stk := [.int r_1]) (wX0_locate cB cI cZ a_this a_field a_sums a_spots a_locator a_rest a_field_powers a_field_logs v_size v_firstCheck v_spotted v_locator_2 v_rest v_spots v_sums v_field_logs v_field_powers) C hw (ct_X0_spread l D cB cI cZ tw a_this a_field a_sums a_spots a_locator a_rest a_field_powers a_field_logs v_size v_firstCheck v_spotted v_locator v_spots v_field_logs v_field_powers (-1) (r_1, v_locator_2) hq_3) cal_X0_spread tw_402 (q0 := 0) rfl rfl [0, 1, 2, 4, 6, 7] [3, 5] 8 [(a_rest, .inl (cI, 4, .inl v_rest)), (a_sums, .inl (cI, 4, .inl v_sums))] rfl rfl rfl rfl rfl rfl rfl rfl rfl rfl rfl (Nat.le_of_ble_eq_true rfl) hl.1 ⟨Nat.le_of_ble_eq_true rfl, Nat.le_of_ble_eq_true rfl⟩ ⟨Nat.zero_le _, Nat.zero_le _⟩ dX0_locate_2 (fun H locs hw => ?_)
  refine lv_istore_n (pc := 5) (lv' := [(3, .int r_1), (0, .ref a_this), (1, .int x1), (2, .int x2)]) hx hb dX0_locate_5 rfl hl (by decide) rfl (fun ls hl => ?_)
  refine lv_iconst (pc := 6) (v := 1) hx hb dX0_locate_6 (by decide) ?_
  refine lv_istore (pc := 7) (lv' := [(4, .int 1), (3, .int r_1), (0, .ref a_this), (1, .int x1), (2, .int x2)]) hx hb dX0_locate_7 hl (by decide) rfl (fun ls hl => ?_)
  refine lv_iconst (pc := 9) (v := 0) hx hb dX0_locate_9 (by decide) ?_
  refine lv_istore (pc := 10) (lv' := [(5, .int 0), (4, .int 1), (3, .int r_1), (0, .ref a_this), (1, .int x1), (2, .int x2)]) hx hb dX0_locate_10 hl (by decide) rfl (fun ls hl => ?_)
  obtain ⟨j60_6, ej60_6, h⟩ := jk_at h
  have J60_6 : ∀ (x4_4 : Int32) (v_rest_5 : Nat → Int32) (ls : Array Slot) (H : Heap) (locs : List Loc), lv_has ls 6 [(4, .int x4_4), (3, .int r_1), (0, .ref a_this), (1, .int x1), (2, .int x2)] → Wd D A s (wX0_locate cB cI cZ a_this a_field a_sums a_spots a_locator a_rest a_field_powers a_field_logs v_size v_firstCheck v_spotted v_locator_2 v_rest_5 v_spots v_sums v_field_logs v_field_powers) H locs → j60_6 x4_4 v_rest_5 = some res → W p l e (rmK 2 48) s m ([.ref a_this, .int x1, .int x2] : List Value).toArray below meth c H locs 0 0 (MQ below (QG D (tyL cB cI cZ) A (fun res : Int32 × Int32 × (Nat → Int32) × (Nat → Int32) × (Nat → Int32) => some (.int res.1)) (fun res : Int32 × Int32 × (Nat → Int32) × (Nat → Int32) × (Nat → Int32) => (wX0_locate cB cI cZ a_this a_field a_sums a_spots a_locator a_rest a_field_powers a_field_logs v_size v_firstCheck (res.2.1) (res.2.2.1) (res.2.2.2.1) (res.2.2.2.2) v_sums v_field_logs v_field_powers)) res) ([.ref a_this, .int x1, .int x2] : List Value).toArray s 0 0 A) (F0 m 60 ls []) := by
    intro x4_4 v_rest_5 ls H locs hl hw h
    have h := k2_at ej60_6 h
    refine lv_iload (pc := 60) hx hb dX0_locate_60 (lv_at hl 0 rfl) ?_
    refine lv_if_eq (pc := 62) (tgt := 67) hx hb dX0_locate_62 (by decide) (fun hc_7 => ?_) (fun hc_7 => ?_)
    · have h := ift hc_7 h
      refine lv_iload_n (pc := 67) hx hb dX0_locate_67 rfl (lv_at hl 4 rfl) ?_
      refine lv_iconst (pc := 68) (v := 1) hx hb dX0_locate_68 (by decide) ?_
      obtain ⟨j83_10, ej83_10, h⟩ := jk_at h
      have J83_10 : ∀ (v_spotted_8 : Int32) (v_spots_9 : Nat → Int32) (ls : Array Slot) (H : Heap) (locs : List Loc), lv_has ls 6 [(0, .ref a_this), (2, .int x2)] → Wd D A s (wX0_locate cB cI cZ a_this a_field a_sums a_spots a_locator a_rest a_field_powers a_field_logs v_size v_firstCheck v_spotted_8 v_locator_2 v_rest_5 v_spots_9 v_sums v_field_logs v_field_powers) H locs → j83_10 v_spotted_8 v_spots_9 = some res → W p l e (rmK 2 48) s m ([.ref a_this, .int x1, .int x2] : List Value).toArray below meth c H locs 0 0 (MQ below (QG D (tyL cB cI cZ) A (fun res : Int32 × Int32 × (Nat → Int32) × (Nat → Int32) × (Nat → Int32) => some (.int res.1)) (fun res : Int32 × Int32 × (Nat → Int32) × (Nat → Int32) × (Nat → Int32) => (wX0_locate cB cI cZ a_this a_field a_sums a_spots a_locator a_rest a_field_powers a_field_logs v_size v_firstCheck (res.2.1) (res.2.2.1) (res.2.2.2.1) (res.2.2.2.2) v_sums v_field_logs v_field_powers)) res) ([.ref a_this, .int x1, .int x2] : List Value).toArray s 0 0 A) (F0 m 83 ls []) := by
        intro v_spotted_8 v_spots_9 ls H locs hl hw h
        have h := k2_at ej83_10 h
        refine lv_iload_n (pc := 83) hx hb dX0_locate_83 rfl (lv_at hl 1 rfl) ?_
        refine lv_iconst (pc := 84) (v := 2) hx hb dX0_locate_84 (by decide) ?_
        refine lv_icmp_lt (pc := 85) (tgt := 99) hx hb dX0_locate_85 (by decide) (fun hc_11 => ?_) (fun hc_11 => ?_)
        · have h := ift hc_11 h
          refine lv_iconst (pc := 99) (v := 0) hx hb dX0_locate_99 (by decide) ?_
          exact x_zret (pc := 100) (v := (0, v_spotted_8, v_locator_2, v_rest_5, v_spots_9)) C (Option.some.inj h) rfl rfl hw dX0_locate_100
        · have h := iff' hc_11 h
          refine lv_aload_n (pc := 88) hx hb dX0_locate_88 rfl (lv_at hl 0 rfl) ?_
          obtain ⟨r_12, v_spotted_13, v_spots_14, hq_15, h⟩ := ob3_at h
          refine x_callV (pc := 89) (rest := []) (stk := [.int r_12]) (wX0_locate cB cI cZ a_this a_field a_sums a_spots a_locator a_rest a_field_powers a_field_logs v_size v_firstCheck v_spotted_13 v_locator_2 v_rest_5 v_spots_14 v_sums v_field_logs v_field_powers) C hw (ct_X0_locateTwo l D cB cI cZ tw a_this a_field a_sums a_spots a_locator a_rest a_field_powers a_field_logs v_size v_firstCheck v_spotted_8 v_spots_9 v_sums v_field_logs v_field_powers (r_12, v_spotted_13, v_spots_14) hq_15) cal_X0_locateTwo tw_785 (q0 := 0) rfl rfl [0, 1, 4, 5, 6, 7] [2, 3] 8 [(a_locator, .inl (cI, 5, .inl v_locator_2)), (a_rest, .inl (cI, 4, .inl v_rest_5))] rfl rfl rfl rfl rfl rfl rfl rfl rfl rfl rfl (Nat.le_of_ble_eq_true rfl) hl.1 ⟨Nat.le_of_ble_eq_true rfl, Nat.le_of_ble_eq_true rfl⟩ ⟨Nat.zero_le _, Nat.zero_le _⟩ dX0_locate_89 (fun H locs hw => ?_)
          refine lv_if_eq (pc := 92) (tgt := 99) hx hb dX0_locate_92 (by decide) (fun hc_16 => ?_) (fun hc_16 => ?_)
          · have h := ift hc_16 h
            refine lv_iconst (pc := 99) (v := 0) hx hb dX0_locate_99 (by decide) ?_
            exact x_zret (pc := 100) (v := (0, v_spotted_13, v_locator_2, v_rest_5, v_spots_14)) C (Option.some.inj h) rfl rfl hw dX0_locate_100
          · have h := iff' hc_16 h
            refine lv_iconst (pc := 95) (v := 1) hx hb dX0_locate_95 (by decide) ?_
            refine lv_goto (pc := 96) (tgt := 100) hx hb dX0_locate_96 (by decide) ?_
            exact x_zret (pc := 100) (v := (1, v_spotted_13, v_locator_2, v_rest_5, v_spots_14)) C (Option.some.inj h) rfl rfl hw dX0_locate_100
      refine lv_icmp_lt (pc := 69) (tgt := 83) hx hb dX0_locate_69 (by decide) (fun hc_17 => ?_) (fun hc_17 => ?_)
      · have h := ift hc_17 h
        exact J83_10 v_spotted v_spots ls _ _ (lv_sub hl [2, 4] rfl) hw h
      · have h := iff' hc_17 h
        refine lv_aload_n (pc := 72) hx hb dX0_locate_72 rfl (lv_at hl 2 rfl) ?_
        refine lv_iload_n (pc := 73) hx hb dX0_locate_73 rfl (lv_at hl 3 rfl) ?_
        refine lv_iconst (pc := 74) (v := 4) hx hb dX0_locate_74 (by decide) ?_
        refine lv_iload_n (pc := 75) hx hb dX0_locate_75 rfl (lv_at hl 1 rfl) ?_
        refine lv_isub (pc := 76) hx hb dX0_locate_76 ?_
        obtain ⟨r_18, v_spotted_19, v_spots_20, hq_21, h⟩ := ob3_at h
        refine x_callV (pc := 77) (rest := []) (stk := [.int r_18]) (wX0_locate cB cI cZ a_this a_field a_sums a_spots a_locator a_rest a_field_powers a_field_logs v_size v_firstCheck v_spotted_19 v_locator_2 v_rest_5 v_spots_20 v_sums v_field_logs v_field_powers) C hw (ct_X0_locateOne l D cB cI cZ tw a_this a_field a_sums a_spots a_locator a_rest a_field_powers a_field_logs v_size v_firstCheck v_spotted v_rest_5 v_spots v_field_logs v_field_powers x1 ((4 : Int32) - r_1) (r_18, v_spotted_19, v_spots_20) hq_21) cal_X0_locateOne tw_777 (q0 := 0) rfl rfl [0, 1, 3, 4, 6, 7] [2, 5] 8 [(a_locator, .inl (cI, 5, .inl v_locator_2)), (a_sums, .inl (cI, 4, .inl v_sums))] rfl rfl rfl rfl rfl rfl rfl rfl rfl rfl rfl (Nat.le_of_ble_eq_true rfl) hl.1 ⟨Nat.le_of_ble_eq_true rfl, Nat.le_of_ble_eq_true rfl⟩ ⟨Nat.zero_le _, Nat.zero_le _⟩ dX0_locate_77 (fun H locs hw => ?_)
        refine lv_if_ne (pc := 80) (tgt := 95) hx hb dX0_locate_80 (by decide) (fun hc_22 => ?_) (fun hc_22 => ?_)
        · have h := iff' hc_22 h
          refine lv_iconst (pc := 95) (v := 1) hx hb dX0_locate_95 (by decide) ?_
          refine lv_goto (pc := 96) (tgt := 100) hx hb dX0_locate_96 (by decide) ?_
          exact x_zret (pc := 100) (v := (1, v_spotted_19, v_locator_2, v_rest_5, v_spots_20)) C (Option.some.inj h) rfl rfl hw dX0_locate_100
        · have h := ift hc_22 h
          exact J83_10 v_spotted_19 v_spots_20 ls _ _ (lv_sub hl [2, 4] rfl) hw h
    · have h := iff' hc_7 h
      refine lv_iconst (pc := 65) (v := 1) hx hb dX0_locate_65 (by decide) ?_
      exact x_zret (pc := 66) (v := (1, v_spotted, v_locator_2, v_rest_5, v_spots)) C (Option.some.inj h) rfl rfl hw dX0_locate_66
  have Lih12_26 : ∀ (F : Nat) (x5_23 : Int32) (x4_24 : Int32) (v_rest_25 : Nat → Int32) (ls : Array Slot) (H : Heap) (locs : List Loc), lv_has ls 6 [(5, .int x5_23), (4, .int x4_24), (3, .int r_1), (0, .ref a_this), (1, .int x1), (2, .int x2)] → Wd D A s (wX0_locate cB cI cZ a_this a_field a_sums a_spots a_locator a_rest a_field_powers a_field_logs v_size v_firstCheck v_spotted v_locator_2 v_rest_25 v_spots v_sums v_field_logs v_field_powers) H locs → fX0_locate_L12 r_1 j60_6 v_locator_2 v_sums v_field_logs v_field_powers F x5_23 x4_24 v_rest_25 = some res → W p l e (rmK 2 48) s m ([.ref a_this, .int x1, .int x2] : List Value).toArray below meth c H locs 0 0 (MQ below (QG D (tyL cB cI cZ) A (fun res : Int32 × Int32 × (Nat → Int32) × (Nat → Int32) × (Nat → Int32) => some (.int res.1)) (fun res : Int32 × Int32 × (Nat → Int32) × (Nat → Int32) × (Nat → Int32) => (wX0_locate cB cI cZ a_this a_field a_sums a_spots a_locator a_rest a_field_powers a_field_logs v_size v_firstCheck (res.2.1) (res.2.2.1) (res.2.2.2.1) (res.2.2.2.2) v_sums v_field_logs v_field_powers)) res) ([.ref a_this, .int x1, .int x2] : List Value).toArray s 0 0 A) (F0 m 12 ls []) := by
    intro F
    induction F with
    | zero => intro x5_23 x4_24 v_rest_25 ls H locs hl hw h; rw [fX0_locate_L12.eq_1] at h; cases h
    | succ F12_26 ih12_26 =>
      intro x5_23 x4_24 v_rest_25 ls H locs hl hw h
      rw [fX0_locate_L12.eq_2] at h
      refine lv_iload (pc := 12) hx hb dX0_locate_12 (lv_at hl 0 rfl) ?_
      refine lv_iconst (pc := 14) (v := 4) hx hb dX0_locate_14 (by decide) ?_
      refine lv_iload_n (pc := 15) hx hb dX0_locate_15 rfl (lv_at hl 2 rfl) ?_
      refine lv_isub (pc := 16) hx hb dX0_locate_16 ?_
      refine lv_icmp_ge (pc := 17) (tgt := 60) hx hb dX0_locate_17 (by decide) (fun hc_27 => ?_) (fun hc_27 => ?_)
      · have h := ift hc_27 h
        exact J60_6 x4_24 v_rest_25 ls _ _ (lv_sub hl [1, 2, 3, 4, 5] rfl) hw h
      · have h := iff' hc_27 h
        refine lv_aload_n (pc := 20) hx hb dX0_locate_20 rfl (lv_at hl 3 rfl) ?_
        refine gf_X0_21 (pc := 21) C hw 0 rfl rfl dX0_locate_21 ?_
        refine lv_iload (pc := 24) hx hb dX0_locate_24 (lv_at hl 0 rfl) ?_
        refine lv_aload_n (pc := 26) hx hb dX0_locate_26 rfl (lv_at hl 3 rfl) ?_
        refine lv_iload_n (pc := 27) hx hb dX0_locate_27 rfl (lv_at hl 2 rfl) ?_
        refine lv_iload (pc := 28) hx hb dX0_locate_28 (lv_at hl 0 rfl) ?_
        obtain ⟨r_28, hq_29, h⟩ := ob1_at h
        refine x_callV (pc := 30) (rest := [.int x5_23, .ref a_rest]) (stk := [.int r_28, .int x5_23, .ref a_rest]) (wX0_locate cB cI cZ a_this a_field a_sums a_spots a_locator a_rest a_field_powers a_field_logs v_size v_firstCheck v_spotted v_locator_2 v_rest_25 v_spots v_sums v_field_logs v_field_powers) C hw (ct_X0_without l D cB cI cZ tw a_this a_field a_sums a_spots a_locator a_rest a_field_powers a_field_logs v_size v_firstCheck v_spotted v_locator_2 v_sums v_field_logs v_field_powers r_1 x5_23 r_28 hq_29) cal_X0_without tw_415 (q0 := 0) rfl rfl [0, 1, 2, 5, 6, 7] [3, 4] 8 [(a_rest, .inl (cI, 4, .inl v_rest_25)), (a_spots, .inl (cI, 4, .inl v_spots))] rfl rfl rfl rfl rfl rfl rfl rfl rfl rfl rfl (Nat.le_of_ble_eq_true rfl) hl.1 ⟨Nat.le_of_ble_eq_true rfl, Nat.le_of_ble_eq_true rfl⟩ ⟨Nat.zero_le _, Nat.zero_le _⟩ dX0_locate_30 (fun H locs hw => ?_)
        obtain ⟨hi_30, h⟩ := og_at h
        obtain ⟨v_rest_31, ev_rest_31⟩ : ∃ y : Nat → Int32, y = upd v_rest_25 (Int32.toNatClampNeg x5_23) r_28 := ⟨_, rfl⟩
        have h := nm_at ev_rest_31 h
        refine x_iast (pc := 33) (wX0_locate cB cI cZ a_this a_field a_sums a_spots a_locator a_rest a_field_powers a_field_logs v_size v_firstCheck v_spotted v_locator_2 v_rest_31 v_spots v_sums v_field_logs v_field_powers) C hw 3 rfl hi_30 (by rw [ev_rest_31]; rfl) dX0_locate_33 (fun H locs hw => ?_)
        refine lv_iload (pc := 34) hx hb dX0_locate_34 (lv_at hl 1 rfl) ?_
        refine lv_aload_n (pc := 36) hx hb dX0_locate_36 rfl (lv_at hl 3 rfl) ?_
        refine gf_X0_21 (pc := 37) C hw 0 rfl rfl dX0_locate_37 ?_
        refine lv_iload (pc := 40) hx hb dX0_locate_40 (lv_at hl 0 rfl) ?_
        obtain ⟨hi_32, h⟩ := og_at h
        refine x_iald (pc := 42) C hw 3 rfl hi_32 dX0_locate_42 ?_
        obtain ⟨j51_34, ej51_34, h⟩ := jk_at h
        have J51_34 : ∀ (t_33 : Int32) (ls : Array Slot) (H : Heap) (locs : List Loc), lv_has ls 6 [(5, .int x5_23), (3, .int r_1), (0, .ref a_this), (1, .int x1), (2, .int x2)] → Wd D A s (wX0_locate cB cI cZ a_this a_field a_sums a_spots a_locator a_rest a_field_powers a_field_logs v_size v_firstCheck v_spotted v_locator_2 v_rest_31 v_spots v_sums v_field_logs v_field_powers) H locs → j51_34 t_33 = some res → W p l e (rmK 2 48) s m ([.ref a_this, .int x1, .int x2] : List Value).toArray below meth c H locs 0 0 (MQ below (QG D (tyL cB cI cZ) A (fun res : Int32 × Int32 × (Nat → Int32) × (Nat → Int32) × (Nat → Int32) => some (.int res.1)) (fun res : Int32 × Int32 × (Nat → Int32) × (Nat → Int32) × (Nat → Int32) => (wX0_locate cB cI cZ a_this a_field a_sums a_spots a_locator a_rest a_field_powers a_field_logs v_size v_firstCheck (res.2.1) (res.2.2.1) (res.2.2.2.1) (res.2.2.2.2) v_sums v_field_logs v_field_powers)) res) ([.ref a_this, .int x1, .int x2] : List Value).toArray s 0 0 A) (F0 m 51 ls [.int t_33, .int x4_24]) := by
          intro t_33 ls H locs hl hw h
          have h := k1_at ej51_34 h
          refine lv_iand (pc := 51) hx hb dX0_locate_51 ?_
          refine lv_topi (pc := 52) (fun x4_35 ex4_35 => ?_)
          have h := nm_at ex4_35 h
          refine lv_istore (pc := 52) (lv' := [(4, .int x4_35), (5, .int x5_23), (3, .int r_1), (0, .ref a_this), (1, .int x1), (2, .int x2)]) hx hb dX0_locate_52 hl (by decide) rfl (fun ls hl => ?_)
          obtain ⟨x5_36, ex5_36⟩ : ∃ y : Int32, y = x5_23 + 1 := ⟨_, rfl⟩
          have h := nm_at ex5_36 h
          refine lv_iinc (pc := 54) (v := x5_36) (lv' := [(5, .int x5_36), (4, .int x4_35), (3, .int r_1), (0, .ref a_this), (1, .int x1), (2, .int x2)]) hx hb dX0_locate_54 hl (k := 1) rfl (by rw [ex5_36]; rfl) (by decide) rfl (fun ls hl => ?_)
          refine lv_goto (pc := 57) (tgt := 12) hx hb dX0_locate_57 (by decide) ?_
          exact ih12_26 x5_36 x4_35 v_rest_31 ls _ _ (lv_sub hl [0, 1, 2, 3, 4, 5] rfl) hw h
        refine lv_if_ne (pc := 43) (tgt := 50) hx hb dX0_locate_43 (by decide) (fun hc_37 => ?_) (fun hc_37 => ?_)
        · have h := iff' hc_37 h
          refine lv_iconst (pc := 50) (v := 0) hx hb dX0_locate_50 (by decide) ?_
          exact J51_34 0 ls _ _ (lv_sub hl [0, 2, 3, 4, 5] rfl) hw h
        · have h := ift hc_37 h
          refine lv_iconst (pc := 46) (v := 1) hx hb dX0_locate_46 (by decide) ?_
          refine lv_goto (pc := 47) (tgt := 51) hx hb dX0_locate_47 (by decide) ?_
          exact J51_34 1 ls _ _ (lv_sub hl [0, 2, 3, 4, 5] rfl) hw h
  exact Lih12_26 FU 0 1 v_rest ls _ _ (lv_sub hl [0, 1, 2, 3, 4, 5] rfl) hw h
def wX0_heal (cB cI cZ : ClassId) (a_this : Nat) (a_field : Nat) (a_sums : Nat) (a_spots : Nat) (a_locator : Nat) (a_rest : Nat) (a_field_powers : Nat) (a_field_logs : Nat) (a_arg1 : Nat) (n_arg1 : Nat) (v_size : Int32) (v_firstCheck : Int32) (v_spotted : Int32) (v_locator : Nat → Int32) (v_rest : Nat → Int32) (v_spots : Nat → Int32) (v_sums : Nat → Int32) (v_field_logs : Nat → Int32) (v_field_powers : Nat → Int32) (v_arg1 : Nat → Int32) : va_W := [oX0 a_this a_field v_size v_firstCheck a_sums a_spots v_spotted a_locator a_rest, oX2 a_field a_field_powers a_field_logs, (a_locator, .inl (cI, 5, .inl v_locator)), (a_rest, .inl (cI, 4, .inl v_rest)), (a_spots, .inl (cI, 4, .inl v_spots)), (a_sums, .inl (cI, 4, .inl v_sums)), (a_field_logs, .inl (cI, 256, .inl v_field_logs)), (a_field_powers, .inl (cI, 510, .inl v_field_powers)), (a_arg1, .inl (cB, n_arg1, .inl v_arg1))]
def fX0_heal_L34 (v_size : Int32) (j65_10 : Int32 → (Nat → Int32) → Option (Int32 × Int32 × (Nat → Int32) × (Nat → Int32) × (Nat → Int32) × (Nat → Int32) × (Nat → Int32))) (x3 : Int32) : Nat → Int32 → Int32 → (Nat → Int32) → Option (Int32 × Int32 × (Nat → Int32) × (Nat → Int32) × (Nat → Int32) × (Nat → Int32) × (Nat → Int32))
  | 0, _, _, _ => none
  | F34_24 + 1, x6_21, v_spotted_22, v_spots_23 => if v_size ≤ x6_21 then j65_10 v_spotted_22 v_spots_23 else jk (fun (v_spotted_26 : Int32) (v_spots_27 : Nat → Int32) => nm (x6_21 + 1 : Int32) fun x6_29 => fX0_heal_L34 v_size j65_10 x3 F34_24 x6_29 v_spotted_26 v_spots_27) fun j59_28 => if ((UInt32.toInt32 (Int32.toUInt32 x3 >>> (Int32.toUInt32 x6_21 &&& Int32.toUInt32 31))) &&& (1 : Int32)) = (1 : Int32) then ob2 (fX0_addSpot v_spotted_22 v_spots_23 x6_21) fun v_spotted_31 v_spots_32 => j59_28 v_spotted_31 v_spots_32 else j59_28 v_spotted_22 v_spots_23
def fX0_heal (v_size : Int32) (v_spotted : Int32) (v_locator : Nat → Int32) (v_rest : Nat → Int32) (v_spots : Nat → Int32) (v_sums : Nat → Int32) (v_field_logs : Nat → Int32) (v_field_powers : Nat → Int32) (v_arg1 : Nat → Int32) (n_arg1 : Nat) (x2 : Int32) (x3 : Int32) (x4 : Int32) : Option (Int32 × Int32 × (Nat → Int32) × (Nat → Int32) × (Nat → Int32) × (Nat → Int32) × (Nat → Int32)) := nt1 (fX0_allPlaces v_size) fun r_1 => nt1 (fJ6_bitCount_0f7a4 (x3 &&& r_1)) fun r_3 => if r_3 ≤ (4 : Int32) then ob1 (fX0_sumUp v_size v_sums v_arg1 n_arg1 x2) fun v_sums_6 => jk (fun (v_spotted_8 : Int32) (v_spots_9 : Nat → Int32) => ob5 (fX0_locate v_size v_spotted_8 v_locator v_rest v_spots_9 v_sums_6 v_field_logs v_field_powers x3 (if (((4 : Int32) - r_3) / (2 : Int32)) < x4 then (((4 : Int32) - r_3) / (2 : Int32)) else x4 : Int32)) fun r_11 v_spotted_12 v_locator_13 v_rest_14 v_spots_15 => if r_11 = 0 then some ((-2), v_spotted_12, v_locator_13, v_rest_14, v_spots_15, v_sums_6, v_arg1) else ob2 (fX0_correct v_size v_spotted_12 v_locator_13 v_spots_15 v_sums_6 v_field_logs v_field_powers v_arg1 n_arg1 x2) fun v_locator_18 v_arg1_19 => some (v_spotted_12, v_spotted_12, v_locator_18, v_rest_14, v_spots_15, v_sums_6, v_arg1_19)) fun j65_10 => fX0_heal_L34 v_size j65_10 x3 FU 0 0 v_spots else some ((-2), v_spotted, v_locator, v_rest, v_spots, v_sums, v_arg1)
set_option maxHeartbeats 4000000 in
set_option maxRecDepth 100000 in
theorem ct_X0_heal (l : Launch) (D : va_G) (cB cI cZ : ClassId) (tw : Nat) (a_this : Nat) (a_field : Nat) (a_sums : Nat) (a_spots : Nat) (a_locator : Nat) (a_rest : Nat) (a_field_powers : Nat) (a_field_logs : Nat) (a_arg1 : Nat) (n_arg1 : Nat) (v_size : Int32) (v_firstCheck : Int32) (v_spotted : Int32) (v_locator : Nat → Int32) (v_rest : Nat → Int32) (v_spots : Nat → Int32) (v_sums : Nat → Int32) (v_field_logs : Nat → Int32) (v_field_powers : Nat → Int32) (v_arg1 : Nat → Int32) (x2 : Int32) (x3 : Int32) (x4 : Int32) (res : Int32 × Int32 × (Nat → Int32) × (Nat → Int32) × (Nat → Int32) × (Nat → Int32) × (Nat → Int32)) (h : fX0_heal v_size v_spotted v_locator v_rest v_spots v_sums v_field_logs v_field_powers v_arg1 n_arg1 x2 x3 x4 = some res) : Ctr l yX0_heal cX0_heal 7 (some .int) (rmK 3 75) D (tyL cB cI cZ) tw [.ref a_this, .ref a_arg1, .int x2, .int x3, .int x4] (wX0_heal cB cI cZ a_this a_field a_sums a_spots a_locator a_rest a_field_powers a_field_logs a_arg1 n_arg1 v_size v_firstCheck v_spotted v_locator v_rest v_spots v_sums v_field_logs v_field_powers v_arg1) (fun res : Int32 × Int32 × (Nat → Int32) × (Nat → Int32) × (Nat → Int32) × (Nat → Int32) × (Nat → Int32) => some (.int res.1)) (fun res : Int32 × Int32 × (Nat → Int32) × (Nat → Int32) × (Nat → Int32) × (Nat → Int32) × (Nat → Int32) => (wX0_heal cB cI cZ a_this a_field a_sums a_spots a_locator a_rest a_field_powers a_field_logs a_arg1 n_arg1 v_size v_firstCheck (res.2.1) (res.2.2.1) (res.2.2.2.1) (res.2.2.2.2.1) (res.2.2.2.2.2.1) v_field_logs v_field_powers (res.2.2.2.2.2.2))) res := by
  refine ctr_of RX0 (by decide) rfl (Nat.le_of_ble_eq_true rfl) ?_
  intro p e s m below meth c A C hw ls hl
  have hx := C.1
  have hb := C.2.1
  have hl : lv_has ls 7 [(0, .ref a_this), (1, .ref a_arg1), (2, .int x2), (3, .int x3), (4, .int x4)] := hl
  unfold fX0_heal at h
  refine lv_iload_n (pc := 0) hx hb dX0_heal_0 rfl (lv_at hl 3 rfl) ?_
  refine lv_aload_n (pc := 1) hx hb dX0_heal_1 rfl (lv_at hl 0 rfl) ?_
  obtain ⟨r_1, hq_2, h⟩ := nt1_at h
  refine x_callV (pc := 2) (rest := [.int x3]) (stk := [.int r_1, .int x3]) (wX0_heal cB cI cZ a_this a_field a_sums a_spots a_locator a_rest a_field_powers a_field_logs a_arg1 n_arg1 v_size v_firstCheck v_spotted v_locator v_rest v_spots v_sums v_field_logs v_field_powers v_arg1) C hw (ct_X0_allPlaces l D cB cI cZ tw a_this a_field a_sums a_spots a_locator a_rest v_size v_firstCheck v_spotted r_1 hq_2.symm) cal_X0_allPlaces tw_767 (q0 := 0) rfl rfl [0] [1, 2, 3, 4, 5, 6, 7, 8] 9 [oX2 a_field a_field_powers a_field_logs, (a_locator, .inl (cI, 5, .inl v_locator)), (a_rest, .inl (cI, 4, .inl v_rest)), (a_spots, .inl (cI, 4, .inl v_spots)), (a_sums, .inl (cI, 4, .inl v_sums)), (a_field_logs, .inl (cI, 256, .inl v_field_logs)), (a_field_powers, .inl (cI, 510, .inl v_field_powers)), (a_arg1, .inl (cB, n_arg1, .inl v_arg1))] rfl rfl rfl rfl rfl rfl rfl rfl rfl rfl rfl (Nat.le_of_ble_eq_true rfl) hl.1 ⟨Nat.le_of_ble_eq_true rfl, Nat.le_of_ble_eq_true rfl⟩ ⟨Nat.zero_le _, Nat.zero_le _⟩ dX0_heal_2 (fun H locs hw => ?_)
  refine lv_iand (pc := 5) hx hb dX0_heal_5 ?_
  obtain ⟨r_3, hq_4, h⟩ := nt1_at h
  refine x_callS (pc := 6) (rest := []) (stk := [.int r_3]) (wX0_heal cB cI cZ a_this a_field a_sums a_spots a_locator a_rest a_field_powers a_field_logs a_arg1 n_arg1 v_size v_firstCheck v_spotted v_locator v_rest v_spots v_sums v_field_logs v_field_powers v_arg1) C hw (ct_J6_bitCount_0f7a4 l D cB cI cZ tw (x3 &&& r_1) r_3 hq_4.symm) cal_J6_bitCount_0f7a4 tw_771 [] [0, 1, 2, 3, 4, 5, 6, 7, 8] 9 [oX0 a_this a_field v_size v_firstCheck a_sums a_spots v_spotted a_locator a_rest, oX2 a_field a_field_powers a_field_logs, (a_locator, .inl (cI, 5, .inl v_locator)), (a_rest, .inl (cI, 4, .inl v_rest)), (a_spots, .inl (cI, 4, .inl v_spots)), (a_sums, .inl (cI, 4, .inl v_sums)), (a_field_logs, .inl (cI, 256, .inl v_field_logs)), (a_field_powers, .inl (cI, 510, .inl v_field_powers)), (a_arg1, .inl (cB, n_arg1, .inl v_arg1))] rfl rfl rfl rfl rfl rfl rfl rfl rfl rfl rfl (Nat.le_of_ble_eq_true rfl) hl.1 ⟨Nat.le_of_ble_eq_true rfl, Nat.le_of_ble_eq_true rfl⟩ ⟨Nat.zero_le _, Nat.zero_le _⟩ dX0_heal_6 (fun H locs hw => ?_)
  refine lv_istore (pc := 9) (lv' := [(5, .int r_3), (0, .ref a_this), (1, .ref a_arg1), (2, .int x2), (3, .int x3), (4, .int x4)]) hx hb dX0_heal_9 hl (by decide) rfl (fun ls hl => ?_)
  refine lv_iload (pc := 11) hx hb dX0_heal_11 (lv_at hl 0 rfl) ?_
  refine lv_iconst (pc := 13) (v := 4) hx hb dX0_heal_13 (by decide) ?_
  refine lv_icmp_le (pc := 14) (tgt := 20) hx hb dX0_heal_14 (by decide) (fun hc_5 => ?_) (fun hc_5 => ?_)
  · have h := ift hc_5 h
    refine lv_aload_n (pc := 20) hx hb dX0_heal_20 rfl (lv_at hl 1 rfl) ?_
    refine lv_aload_n (pc := 21) hx hb dX0_heal_21 rfl (lv_at hl 2 rfl) ?_
    refine lv_iload_n (pc := 22) hx hb dX0_heal_22 rfl (lv_at hl 3 rfl) ?_
    obtain ⟨v_sums_6, hq_7, h⟩ := ob1_at h
    refine x_callV (pc := 23) (rest := []) (stk := []) (wX0_heal cB cI cZ a_this a_field a_sums a_spots a_locator a_rest a_field_powers a_field_logs a_arg1 n_arg1 v_size v_firstCheck v_spotted v_locator v_rest v_spots v_sums_6 v_field_logs v_field_powers v_arg1) C hw (ct_X0_sumUp l D cB cI cZ tw a_this a_field a_sums a_spots a_locator a_rest a_arg1 n_arg1 v_size v_firstCheck v_spotted v_sums v_arg1 x2 v_sums_6 hq_7) cal_X0_sumUp tw_385 (q0 := 0) rfl rfl [0, 5, 8] [1, 2, 3, 4, 6, 7] 9 [oX2 a_field a_field_powers a_field_logs, (a_locator, .inl (cI, 5, .inl v_locator)), (a_rest, .inl (cI, 4, .inl v_rest)), (a_spots, .inl (cI, 4, .inl v_spots)), (a_field_logs, .inl (cI, 256, .inl v_field_logs)), (a_field_powers, .inl (cI, 510, .inl v_field_powers))] rfl rfl rfl rfl rfl rfl rfl rfl rfl rfl rfl (Nat.le_of_ble_eq_true rfl) hl.1 ⟨Nat.le_of_ble_eq_true rfl, Nat.le_of_ble_eq_true rfl⟩ ⟨Nat.zero_le _, Nat.zero_le _⟩ dX0_heal_23 (fun H locs hw => ?_)
    refine lv_aload_n (pc := 26) hx hb dX0_heal_26 rfl (lv_at hl 1 rfl) ?_
    refine lv_iconst (pc := 27) (v := 0) hx hb dX0_heal_27 (by decide) ?_
    refine pf_X0_39 (pc := 28) (wX0_heal cB cI cZ a_this a_field a_sums a_spots a_locator a_rest a_field_powers a_field_logs a_arg1 n_arg1 v_size v_firstCheck 0 v_locator v_rest v_spots v_sums_6 v_field_logs v_field_powers v_arg1) C hw 0 rfl rfl rfl rfl (Nat.le_of_ble_eq_true rfl) dX0_heal_28 (fun H locs hw => ?_)
    refine lv_iconst (pc := 31) (v := 0) hx hb dX0_heal_31 (by decide) ?_
    refine lv_istore (pc := 32) (lv' := [(6, .int 0), (5, .int r_3), (0, .ref a_this), (1, .ref a_arg1), (2, .int x2), (3, .int x3), (4, .int x4)]) hx hb dX0_heal_32 hl (by decide) rfl (fun ls hl => ?_)
    obtain ⟨j65_10, ej65_10, h⟩ := jk_at h
    have J65_10 : ∀ (v_spotted_8 : Int32) (v_spots_9 : Nat → Int32) (ls : Array Slot) (H : Heap) (locs : List Loc), lv_has ls 7 [(5, .int r_3), (0, .ref a_this), (1, .ref a_arg1), (2, .int x2), (3, .int x3), (4, .int x4)] → Wd D A s (wX0_heal cB cI cZ a_this a_field a_sums a_spots a_locator a_rest a_field_powers a_field_logs a_arg1 n_arg1 v_size v_firstCheck v_spotted_8 v_locator v_rest v_spots_9 v_sums_6 v_field_logs v_field_powers v_arg1) H locs → j65_10 v_spotted_8 v_spots_9 = some res → W p l e (rmK 3 75) s m ([.ref a_this, .ref a_arg1, .int x2, .int x3, .int x4] : List Value).toArray below meth c H locs 0 0 (MQ below (QG D (tyL cB cI cZ) A (fun res : Int32 × Int32 × (Nat → Int32) × (Nat → Int32) × (Nat → Int32) × (Nat → Int32) × (Nat → Int32) => some (.int res.1)) (fun res : Int32 × Int32 × (Nat → Int32) × (Nat → Int32) × (Nat → Int32) × (Nat → Int32) × (Nat → Int32) => (wX0_heal cB cI cZ a_this a_field a_sums a_spots a_locator a_rest a_field_powers a_field_logs a_arg1 n_arg1 v_size v_firstCheck (res.2.1) (res.2.2.1) (res.2.2.2.1) (res.2.2.2.2.1) (res.2.2.2.2.2.1) v_field_logs v_field_powers (res.2.2.2.2.2.2))) res) ([.ref a_this, .ref a_arg1, .int x2, .int x3, .int x4] : List Value).toArray s 0 0 A) (F0 m 65 ls []) := by
      intro v_spotted_8 v_spots_9 ls H locs hl hw h
      have h := k2_at ej65_10 h
      refine lv_aload_n (pc := 65) hx hb dX0_heal_65 rfl (lv_at hl 1 rfl) ?_
      refine lv_iload_n (pc := 66) hx hb dX0_heal_66 rfl (lv_at hl 4 rfl) ?_
      refine lv_iload (pc := 67) hx hb dX0_heal_67 (lv_at hl 5 rfl) ?_
      refine lv_iconst (pc := 69) (v := 4) hx hb dX0_heal_69 (by decide) ?_
      refine lv_iload (pc := 70) hx hb dX0_heal_70 (lv_at hl 0 rfl) ?_
      refine lv_isub (pc := 72) hx hb dX0_heal_72 ?_
      refine lv_iconst (pc := 73) (v := 2) hx hb dX0_heal_73 (by decide) ?_
      refine lv_idiv (pc := 74) hx hb dX0_heal_74 (by decide) ?_
      refine va_mmin (pc := 75) (own := RX0) hx hb (C.2.2.1.trans hl.1.symm) C.2.2.2.1 (C.2.2.2.2.1 _ tw_772) (C.2.2.2.2.1 _ tw_623) (C.2.2.2.2.1 _ tw_14) (C.2.2.2.2.1 _ tw_624) (Nat.le_of_ble_eq_true rfl) (Nat.le_of_ble_eq_true rfl) (Nat.zero_le _) (Nat.zero_le _) dX0_heal_75 ?_
      obtain ⟨r_11, v_spotted_12, v_locator_13, v_rest_14, v_spots_15, hq_16, h⟩ := ob5_at h
      refine x_callV (pc := 78) (rest := []) (stk := [.int r_11]) (wX0_heal cB cI cZ a_this a_field a_sums a_spots a_locator a_rest a_field_powers a_field_logs a_arg1 n_arg1 v_size v_firstCheck v_spotted_12 v_locator_13 v_rest_14 v_spots_15 v_sums_6 v_field_logs v_field_powers v_arg1) C hw (ct_X0_locate l D cB cI cZ tw a_this a_field a_sums a_spots a_locator a_rest a_field_powers a_field_logs v_size v_firstCheck v_spotted_8 v_locator v_rest v_spots_9 v_sums_6 v_field_logs v_field_powers x3 (if (((4 : Int32) - r_3) / (2 : Int32)) < x4 then (((4 : Int32) - r_3) / (2 : Int32)) else x4 : Int32) (r_11, v_spotted_12, v_locator_13, v_rest_14, v_spots_15) hq_16) cal_X0_locate tw_773 (q0 := 0) rfl rfl [0, 1, 2, 3, 4, 5, 6, 7] [8] 9 [(a_arg1, .inl (cB, n_arg1, .inl v_arg1))] rfl rfl rfl rfl rfl rfl rfl rfl rfl rfl rfl (Nat.le_of_ble_eq_true rfl) hl.1 ⟨Nat.le_of_ble_eq_true rfl, Nat.le_of_ble_eq_true rfl⟩ ⟨Nat.zero_le _, Nat.zero_le _⟩ dX0_heal_78 (fun H locs hw => ?_)
      refine lv_if_ne (pc := 81) (tgt := 87) hx hb dX0_heal_81 (by decide) (fun hc_17 => ?_) (fun hc_17 => ?_)
      · have h := iff' hc_17 h
        refine lv_aload_n (pc := 87) hx hb dX0_heal_87 rfl (lv_at hl 1 rfl) ?_
        refine lv_aload_n (pc := 88) hx hb dX0_heal_88 rfl (lv_at hl 2 rfl) ?_
        refine lv_iload_n (pc := 89) hx hb dX0_heal_89 rfl (lv_at hl 3 rfl) ?_
        obtain ⟨v_locator_18, v_arg1_19, hq_20, h⟩ := ob2_at h
        refine x_callV (pc := 90) (rest := []) (stk := []) (wX0_heal cB cI cZ a_this a_field a_sums a_spots a_locator a_rest a_field_powers a_field_logs a_arg1 n_arg1 v_size v_firstCheck v_spotted_12 v_locator_18 v_rest_14 v_spots_15 v_sums_6 v_field_logs v_field_powers v_arg1_19) C hw (ct_X0_correct l D cB cI cZ tw a_this a_field a_sums a_spots a_locator a_rest a_field_powers a_field_logs a_arg1 n_arg1 v_size v_firstCheck v_spotted_12 v_locator_13 v_spots_15 v_sums_6 v_field_logs v_field_powers v_arg1 x2 (v_locator_18, v_arg1_19) hq_20) cal_X0_correct tw_398 (q0 := 0) rfl rfl [0, 1, 2, 4, 5, 6, 7, 8] [3] 9 [(a_rest, .inl (cI, 4, .inl v_rest_14))] rfl rfl rfl rfl rfl rfl rfl rfl rfl rfl rfl (Nat.le_of_ble_eq_true rfl) hl.1 ⟨Nat.le_of_ble_eq_true rfl, Nat.le_of_ble_eq_true rfl⟩ ⟨Nat.zero_le _, Nat.zero_le _⟩ dX0_heal_90 (fun H locs hw => ?_)
        refine lv_aload_n (pc := 93) hx hb dX0_heal_93 rfl (lv_at hl 1 rfl) ?_
        refine gf_X0_39 (pc := 94) C hw 0 rfl rfl dX0_heal_94 ?_
        exact x_iret (pc := 97) (v := (v_spotted_12, v_spotted_12, v_locator_18, v_rest_14, v_spots_15, v_sums_6, v_arg1_19)) C (Option.some.inj h) rfl hw dX0_heal_97
      · have h := ift hc_17 h
        refine lv_bipush (pc := 84) (v := (-2)) hx hb dX0_heal_84 (by decide) ?_
        exact x_iret (pc := 86) (v := ((-2), v_spotted_12, v_locator_13, v_rest_14, v_spots_15, v_sums_6, v_arg1)) C (Option.some.inj h) rfl hw dX0_heal_86
    have Lih34_24 : ∀ (F : Nat) (x6_21 : Int32) (v_spotted_22 : Int32) (v_spots_23 : Nat → Int32) (ls : Array Slot) (H : Heap) (locs : List Loc), lv_has ls 7 [(6, .int x6_21), (5, .int r_3), (0, .ref a_this), (1, .ref a_arg1), (2, .int x2), (3, .int x3), (4, .int x4)] → Wd D A s (wX0_heal cB cI cZ a_this a_field a_sums a_spots a_locator a_rest a_field_powers a_field_logs a_arg1 n_arg1 v_size v_firstCheck v_spotted_22 v_locator v_rest v_spots_23 v_sums_6 v_field_logs v_field_powers v_arg1) H locs → fX0_heal_L34 v_size j65_10 x3 F x6_21 v_spotted_22 v_spots_23 = some res → W p l e (rmK 3 75) s m ([.ref a_this, .ref a_arg1, .int x2, .int x3, .int x4] : List Value).toArray below meth c H locs 0 0 (MQ below (QG D (tyL cB cI cZ) A (fun res : Int32 × Int32 × (Nat → Int32) × (Nat → Int32) × (Nat → Int32) × (Nat → Int32) × (Nat → Int32) => some (.int res.1)) (fun res : Int32 × Int32 × (Nat → Int32) × (Nat → Int32) × (Nat → Int32) × (Nat → Int32) × (Nat → Int32) => (wX0_heal cB cI cZ a_this a_field a_sums a_spots a_locator a_rest a_field_powers a_field_logs a_arg1 n_arg1 v_size v_firstCheck (res.2.1) (res.2.2.1) (res.2.2.2.1) (res.2.2.2.2.1) (res.2.2.2.2.2.1) v_field_logs v_field_powers (res.2.2.2.2.2.2))) res) ([.ref a_this, .ref a_arg1, .int x2, .int x3, .int x4] : List Value).toArray s 0 0 A) (F0 m 34 ls []) := by
      intro F
      induction F with
      | zero => intro x6_21 v_spotted_22 v_spots_23 ls H locs hl hw h; rw [fX0_heal_L34.eq_1] at h; cases h
      | succ F34_24 ih34_24 =>
        intro x6_21 v_spotted_22 v_spots_23 ls H locs hl hw h
        rw [fX0_heal_L34.eq_2] at h
        refine lv_iload (pc := 34) hx hb dX0_heal_34 (lv_at hl 0 rfl) ?_
        refine lv_aload_n (pc := 36) hx hb dX0_heal_36 rfl (lv_at hl 2 rfl) ?_
        refine gf_X0_28 (pc := 37) C hw 0 rfl rfl dX0_heal_37 ?_
        refine lv_icmp_ge (pc := 40) (tgt := 65) hx hb dX0_heal_40 (by decide) (fun hc_25 => ?_) (fun hc_25 => ?_)
        · have h := ift hc_25 h
          exact J65_10 v_spotted_22 v_spots_23 ls _ _ (lv_sub hl [1, 2, 3, 4, 5, 6] rfl) hw h
        · have h := iff' hc_25 h
          refine lv_iload_n (pc := 43) hx hb dX0_heal_43 rfl (lv_at hl 5 rfl) ?_
          refine lv_iload (pc := 44) hx hb dX0_heal_44 (lv_at hl 0 rfl) ?_
          refine lv_iushr (pc := 46) hx hb dX0_heal_46 rfl ?_
          refine lv_iconst (pc := 47) (v := 1) hx hb dX0_heal_47 (by decide) ?_
          refine lv_iand (pc := 48) hx hb dX0_heal_48 ?_
          refine lv_iconst (pc := 49) (v := 1) hx hb dX0_heal_49 (by decide) ?_
          obtain ⟨j59_28, ej59_28, h⟩ := jk_at h
          have J59_28 : ∀ (v_spotted_26 : Int32) (v_spots_27 : Nat → Int32) (ls : Array Slot) (H : Heap) (locs : List Loc), lv_has ls 7 [(6, .int x6_21), (5, .int r_3), (0, .ref a_this), (1, .ref a_arg1), (2, .int x2), (3, .int x3), (4, .int x4)] → Wd D A s (wX0_heal cB cI cZ a_this a_field a_sums a_spots a_locator a_rest a_field_powers a_field_logs a_arg1 n_arg1 v_size v_firstCheck v_spotted_26 v_locator v_rest v_spots_27 v_sums_6 v_field_logs v_field_powers v_arg1) H locs → j59_28 v_spotted_26 v_spots_27 = some res → W p l e (rmK 3 75) s m ([.ref a_this, .ref a_arg1, .int x2, .int x3, .int x4] : List Value).toArray below meth c H locs 0 0 (MQ below (QG D (tyL cB cI cZ) A (fun res : Int32 × Int32 × (Nat → Int32) × (Nat → Int32) × (Nat → Int32) × (Nat → Int32) × (Nat → Int32) => some (.int res.1)) (fun res : Int32 × Int32 × (Nat → Int32) × (Nat → Int32) × (Nat → Int32) × (Nat → Int32) × (Nat → Int32) => (wX0_heal cB cI cZ a_this a_field a_sums a_spots a_locator a_rest a_field_powers a_field_logs a_arg1 n_arg1 v_size v_firstCheck (res.2.1) (res.2.2.1) (res.2.2.2.1) (res.2.2.2.2.1) (res.2.2.2.2.2.1) v_field_logs v_field_powers (res.2.2.2.2.2.2))) res) ([.ref a_this, .ref a_arg1, .int x2, .int x3, .int x4] : List Value).toArray s 0 0 A) (F0 m 59 ls []) := by
            intro v_spotted_26 v_spots_27 ls H locs hl hw h
            have h := k2_at ej59_28 h
            obtain ⟨x6_29, ex6_29⟩ : ∃ y : Int32, y = x6_21 + 1 := ⟨_, rfl⟩
            have h := nm_at ex6_29 h
            refine lv_iinc (pc := 59) (v := x6_29) (lv' := [(6, .int x6_29), (5, .int r_3), (0, .ref a_this), (1, .ref a_arg1), (2, .int x2), (3, .int x3), (4, .int x4)]) hx hb dX0_heal_59 hl (k := 0) rfl (by rw [ex6_29]; rfl) (by decide) rfl (fun ls hl => ?_)
            refine lv_goto (pc := 62) (tgt := 34) hx hb dX0_heal_62 (by decide) ?_
            exact ih34_24 x6_29 v_spotted_26 v_spots_27 ls _ _ (lv_sub hl [0, 1, 2, 3, 4, 5, 6] rfl) hw h
          refine lv_icmp_ne (pc := 50) (tgt := 59) hx hb dX0_heal_50 (by decide) (fun hc_30 => ?_) (fun hc_30 => ?_)
          · have h := iff' hc_30 h
            exact J59_28 v_spotted_22 v_spots_23 ls _ _ (lv_sub hl [0, 1, 2, 3, 4, 5, 6] rfl) hw h
          · have h := ift hc_30 h
            refine lv_aload_n (pc := 53) hx hb dX0_heal_53 rfl (lv_at hl 2 rfl) ?_
            refine lv_iload (pc := 54) hx hb dX0_heal_54 (lv_at hl 0 rfl) ?_
            obtain ⟨v_spotted_31, v_spots_32, hq_33, h⟩ := ob2_at h
            refine x_callV (pc := 56) (rest := []) (stk := []) (wX0_heal cB cI cZ a_this a_field a_sums a_spots a_locator a_rest a_field_powers a_field_logs a_arg1 n_arg1 v_size v_firstCheck v_spotted_31 v_locator v_rest v_spots_32 v_sums_6 v_field_logs v_field_powers v_arg1) C hw (ct_X0_addSpot l D cB cI cZ tw a_this a_field a_sums a_spots a_locator a_rest v_size v_firstCheck v_spotted_22 v_spots_23 x6_21 (v_spotted_31, v_spots_32) hq_33) cal_X0_addSpot tw_394 (q0 := 0) rfl rfl [0, 4] [1, 2, 3, 5, 6, 7, 8] 9 [oX2 a_field a_field_powers a_field_logs, (a_locator, .inl (cI, 5, .inl v_locator)), (a_rest, .inl (cI, 4, .inl v_rest)), (a_sums, .inl (cI, 4, .inl v_sums_6)), (a_field_logs, .inl (cI, 256, .inl v_field_logs)), (a_field_powers, .inl (cI, 510, .inl v_field_powers)), (a_arg1, .inl (cB, n_arg1, .inl v_arg1))] rfl rfl rfl rfl rfl rfl rfl rfl rfl rfl rfl (Nat.le_of_ble_eq_true rfl) hl.1 ⟨Nat.le_of_ble_eq_true rfl, Nat.le_of_ble_eq_true rfl⟩ ⟨Nat.zero_le _, Nat.zero_le _⟩ dX0_heal_56 (fun H locs hw => ?_)
            exact J59_28 v_spotted_31 v_spots_32 ls _ _ (lv_sub hl [0, 1, 2, 3, 4, 5, 6] rfl) hw h
    exact Lih34_24 FU 0 0 v_spots ls _ _ (lv_sub hl [0, 1, 2, 3, 4, 5, 6] rfl) hw h
  · have h := iff' hc_5 h
    refine lv_bipush (pc := 17) (v := (-2)) hx hb dX0_heal_17 (by decide) ?_
    exact x_iret (pc := 19) (v := ((-2), v_spotted, v_locator, v_rest, v_spots, v_sums, v_arg1)) C (Option.some.inj h) rfl hw dX0_heal_19
