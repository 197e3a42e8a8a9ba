def wJ7_fill_53178 (cB cI cZ : ClassId) (a_arg0 : Nat) (n_arg0 : Nat) (v_arg0 : Nat → Int32) : va_W := [(a_arg0, .inl (cI, n_arg0, .inl v_arg0))]
def fJ7_fill_53178_L5 (x3_1 : Int32) (n_arg0 : Nat) (x1 : Int32) : Nat → Int32 → (Nat → Int32) → Option ((Nat → Int32))
  | 0, _, _ => none
  | F5_4 + 1, x2_2, v_arg0_3 => if x3_1 ≤ x2_2 then some v_arg0_3 else og (ixb x2_2 n_arg0) (nm (upd v_arg0_3 (Int32.toNatClampNeg x2_2) x1) fun v_arg0_7 => nm (x2_2 + 1 : Int32) fun x2_8 => fJ7_fill_53178_L5 x3_1 n_arg0 x1 F5_4 x2_8 v_arg0_7)
def fJ7_fill_53178 (v_arg0 : Nat → Int32) (n_arg0 : Nat) (x1 : Int32) : Option ((Nat → Int32)) := nm ((Int32.ofNat n_arg0) : Int32) fun x3_1 => fJ7_fill_53178_L5 x3_1 n_arg0 x1 FU 0 v_arg0
set_option maxHeartbeats 4000000 in
set_option maxRecDepth 100000 in
theorem ct_J7_fill_53178 (l : Launch) (D : va_G) (cB cI cZ : ClassId) (tw : Nat) (a_arg0 : Nat) (n_arg0 : Nat) (v_arg0 : Nat → Int32) (x1 : Int32) (res : (Nat → Int32)) (h : fJ7_fill_53178 v_arg0 n_arg0 x1 = some res) : Ctr l yJ7_fill_53178 cJ7_fill_53178 4 none (rmK 0 0) D (tyL cB cI cZ) tw [.ref a_arg0, .int x1] (wJ7_fill_53178 cB cI cZ a_arg0 n_arg0 v_arg0) (fun _ : (Nat → Int32) => none) (fun res : (Nat → Int32) => (wJ7_fill_53178 cB cI cZ a_arg0 n_arg0 res)) res := by
  refine ctr_of RJ7 (by decide) rfl (Nat.le_of_ble_eq_true rfl) ?_
  intro p e s m below meth c A C hw ls hl
  have hx := C.1
  have hb := C.2.1
  have hl : lv_has ls 4 [(0, .ref a_arg0), (1, .int x1)] := hl
  unfold fJ7_fill_53178 at h
  refine lv_iconst (pc := 0) (v := 0) hx hb dJ7_fill_53178_0 (by decide) ?_
  refine lv_istore_n (pc := 1) (lv' := [(2, .int 0), (0, .ref a_arg0), (1, .int x1)]) hx hb dJ7_fill_53178_1 rfl hl (by decide) rfl (fun ls hl => ?_)
  refine lv_aload_n (pc := 2) hx hb dJ7_fill_53178_2 rfl (lv_at hl 1 rfl) ?_
  refine x_ilen (pc := 3) (Int32.ofNat n_arg0) C hw 0 1 rfl rfl rfl dJ7_fill_53178_3 ?_
  refine lv_topi (pc := 4) (fun x3_1 ex3_1 => ?_)
  have h := nm_at ex3_1 h
  refine lv_istore_n (pc := 4) (lv' := [(3, .int x3_1), (2, .int 0), (0, .ref a_arg0), (1, .int x1)]) hx hb dJ7_fill_53178_4 rfl hl (by decide) rfl (fun ls hl => ?_)
  have Lih5_4 : ∀ (F : Nat) (x2_2 : Int32) (v_arg0_3 : Nat → Int32) (ls : Array Slot) (H : Heap) (locs : List Loc), lv_has ls 4 [(3, .int x3_1), (2, .int x2_2), (0, .ref a_arg0), (1, .int x1)] → Wd D A s (wJ7_fill_53178 cB cI cZ a_arg0 n_arg0 v_arg0_3) H locs → fJ7_fill_53178_L5 x3_1 n_arg0 x1 F x2_2 v_arg0_3 = some res → W p l e (rmK 0 0) s m ([.ref a_arg0, .int x1] : List Value).toArray below meth c H locs 0 0 (MQ below (QG D (tyL cB cI cZ) A (fun _ : (Nat → Int32) => none) (fun res : (Nat → Int32) => (wJ7_fill_53178 cB cI cZ a_arg0 n_arg0 res)) res) ([.ref a_arg0, .int x1] : List Value).toArray s 0 0 A) (F0 m 5 ls []) := by
    intro F
    induction F with
    | zero => intro x2_2 v_arg0_3 ls H locs hl hw h; rw [fJ7_fill_53178_L5.eq_1] at h; cases h
    | succ F5_4 ih5_4 =>
      intro x2_2 v_arg0_3 ls H locs hl hw h
      rw [fJ7_fill_53178_L5.eq_2] at h
      refine lv_iload_n (pc := 5) hx hb dJ7_fill_53178_5 rfl (lv_at hl 1 rfl) ?_
      refine lv_iload_n (pc := 6) hx hb dJ7_fill_53178_6 rfl (lv_at hl 0 rfl) ?_
      refine lv_icmp_ge (pc := 7) (tgt := 20) hx hb dJ7_fill_53178_7 (by decide) (fun hc_5 => ?_) (fun hc_5 => ?_)
      · have h := ift hc_5 h
        exact x_vret (pc := 20) (v := v_arg0_3) C (Option.some.inj h) rfl hw dJ7_fill_53178_20
      · have h := iff' hc_5 h
        refine lv_aload_n (pc := 10) hx hb dJ7_fill_53178_10 rfl (lv_at hl 2 rfl) ?_
        refine lv_iload_n (pc := 11) hx hb dJ7_fill_53178_11 rfl (lv_at hl 1 rfl) ?_
        refine lv_iload_n (pc := 12) hx hb dJ7_fill_53178_12 rfl (lv_at hl 3 rfl) ?_
        obtain ⟨hi_6, h⟩ := og_at h
        obtain ⟨v_arg0_7, ev_arg0_7⟩ : ∃ y : Nat → Int32, y = upd v_arg0_3 (Int32.toNatClampNeg x2_2) x1 := ⟨_, rfl⟩
        have h := nm_at ev_arg0_7 h
        refine x_iast (pc := 13) (wJ7_fill_53178 cB cI cZ a_arg0 n_arg0 v_arg0_7) C hw 0 rfl hi_6 (by rw [ev_arg0_7]; rfl) dJ7_fill_53178_13 (fun H locs hw => ?_)
        obtain ⟨x2_8, ex2_8⟩ : ∃ y : Int32, y = x2_2 + 1 := ⟨_, rfl⟩
        have h := nm_at ex2_8 h
        refine lv_iinc (pc := 14) (v := x2_8) (lv' := [(2, .int x2_8), (3, .int x3_1), (0, .ref a_arg0), (1, .int x1)]) hx hb dJ7_fill_53178_14 hl (k := 1) rfl (by rw [ex2_8]; rfl) (by decide) rfl (fun ls hl => ?_)
        refine lv_goto (pc := 17) (tgt := 5) hx hb dJ7_fill_53178_17 (by decide) ?_
        exact ih5_4 x2_8 v_arg0_7 ls _ _ (lv_sub hl [1, 0, 2, 3] rfl) hw h
  exact Lih5_4 FU 0 v_arg0 ls _ _ (lv_sub hl [0, 1, 2, 3] rfl) hw h
def wJ6_bitCount_0f7a4 (cB cI cZ : ClassId) : va_W := []
def fJ6_bitCount_0f7a4 (x0 : Int32) : Int32 := nm ((x0 - ((UInt32.toInt32 (Int32.toUInt32 x0 >>> (Int32.toUInt32 1 &&& Int32.toUInt32 31))) &&& (1431655765 : Int32))) : Int32) fun x0_1 => nm (((x0_1 &&& (858993459 : Int32)) + ((UInt32.toInt32 (Int32.toUInt32 x0_1 >>> (Int32.toUInt32 2 &&& Int32.toUInt32 31))) &&& (858993459 : Int32))) : Int32) fun x0_2 => nm (((x0_2 + (UInt32.toInt32 (Int32.toUInt32 x0_2 >>> (Int32.toUInt32 4 &&& Int32.toUInt32 31)))) &&& (252645135 : Int32)) : Int32) fun x0_3 => nm ((x0_3 + (UInt32.toInt32 (Int32.toUInt32 x0_3 >>> (Int32.toUInt32 8 &&& Int32.toUInt32 31)))) : Int32) fun x0_4 => nm ((x0_4 + (UInt32.toInt32 (Int32.toUInt32 x0_4 >>> (Int32.toUInt32 16 &&& Int32.toUInt32 31)))) : Int32) fun x0_5 => (x0_5 &&& (63 : Int32))
set_option maxHeartbeats 4000000 in
set_option maxRecDepth 100000 in
theorem ct_J6_bitCount_0f7a4 (l : Launch) (D : va_G) (cB cI cZ : ClassId) (tw : Nat) (x0 : Int32) (res : Int32) (h : fJ6_bitCount_0f7a4 x0 = res) : Ctr l yJ6_bitCount_0f7a4 cJ6_bitCount_0f7a4 1 (some .int) (rmK 0 0) D (tyL cB cI cZ) tw [.int x0] (wJ6_bitCount_0f7a4 cB cI cZ) (fun res : Int32 => some (.int res)) (fun res : Int32 => (wJ6_bitCount_0f7a4 cB cI cZ)) res := by
  refine ctr_of RJ6 (by decide) rfl (Nat.le_of_ble_eq_true rfl) ?_
  intro p e s m below meth c A C hw ls hl
  have hx := C.1
  have hb := C.2.1
  have hl : lv_has ls 1 [(0, .int x0)] := hl
  unfold fJ6_bitCount_0f7a4 at h
  refine lv_iload_n (pc := 0) hx hb dJ6_bitCount_0f7a4_0 rfl (lv_at hl 0 rfl) ?_
  refine lv_iload_n (pc := 1) hx hb dJ6_bitCount_0f7a4_1 rfl (lv_at hl 0 rfl) ?_
  refine lv_iconst (pc := 2) (v := 1) hx hb dJ6_bitCount_0f7a4_2 (by decide) ?_
  refine lv_iushr (pc := 3) hx hb dJ6_bitCount_0f7a4_3 rfl ?_
  refine lv_ldcw (own := RJ6) (v := 1431655765) hx hb C.2.2.2.1 (C.2.2.2.2.1 _ tw_462) dJ6_bitCount_0f7a4_4 ?_
  refine lv_iand (pc := 7) hx hb dJ6_bitCount_0f7a4_7 ?_
  refine lv_isub (pc := 8) hx hb dJ6_bitCount_0f7a4_8 ?_
  refine lv_topi (pc := 9) (fun x0_1 ex0_1 => ?_)
  have h := nm_at ex0_1 h
  refine lv_istore_n (pc := 9) (lv' := [(0, .int x0_1)]) hx hb dJ6_bitCount_0f7a4_9 rfl hl (by decide) rfl (fun ls hl => ?_)
  refine lv_iload_n (pc := 10) hx hb dJ6_bitCount_0f7a4_10 rfl (lv_at hl 0 rfl) ?_
  refine lv_ldcw (own := RJ6) (v := 858993459) hx hb C.2.2.2.1 (C.2.2.2.2.1 _ tw_463) dJ6_bitCount_0f7a4_11 ?_
  refine lv_iand (pc := 14) hx hb dJ6_bitCount_0f7a4_14 ?_
  refine lv_iload_n (pc := 15) hx hb dJ6_bitCount_0f7a4_15 rfl (lv_at hl 0 rfl) ?_
  refine lv_iconst (pc := 16) (v := 2) hx hb dJ6_bitCount_0f7a4_16 (by decide) ?_
  refine lv_iushr (pc := 17) hx hb dJ6_bitCount_0f7a4_17 rfl ?_
  refine lv_ldcw (own := RJ6) (v := 858993459) hx hb C.2.2.2.1 (C.2.2.2.2.1 _ tw_463) dJ6_bitCount_0f7a4_18 ?_
  refine lv_iand (pc := 21) hx hb dJ6_bitCount_0f7a4_21 ?_
  refine lv_iadd (pc := 22) hx hb dJ6_bitCount_0f7a4_22 ?_
  refine lv_topi (pc := 23) (fun x0_2 ex0_2 => ?_)
  have h := nm_at ex0_2 h
  refine lv_istore_n (pc := 23) (lv' := [(0, .int x0_2)]) hx hb dJ6_bitCount_0f7a4_23 rfl hl (by decide) rfl (fun ls hl => ?_)
  refine lv_iload_n (pc := 24) hx hb dJ6_bitCount_0f7a4_24 rfl (lv_at hl 0 rfl) ?_
  refine lv_iload_n (pc := 25) hx hb dJ6_bitCount_0f7a4_25 rfl (lv_at hl 0 rfl) ?_
  refine lv_iconst (pc := 26) (v := 4) hx hb dJ6_bitCount_0f7a4_26 (by decide) ?_
  refine lv_iushr (pc := 27) hx hb dJ6_bitCount_0f7a4_27 rfl ?_
  refine lv_iadd (pc := 28) hx hb dJ6_bitCount_0f7a4_28 ?_
  refine lv_ldcw (own := RJ6) (v := 252645135) hx hb C.2.2.2.1 (C.2.2.2.2.1 _ tw_464) dJ6_bitCount_0f7a4_29 ?_
  refine lv_iand (pc := 32) hx hb dJ6_bitCount_0f7a4_32 ?_
  refine lv_topi (pc := 33) (fun x0_3 ex0_3 => ?_)
  have h := nm_at ex0_3 h
  refine lv_istore_n (pc := 33) (lv' := [(0, .int x0_3)]) hx hb dJ6_bitCount_0f7a4_33 rfl hl (by decide) rfl (fun ls hl => ?_)
  refine lv_iload_n (pc := 34) hx hb dJ6_bitCount_0f7a4_34 rfl (lv_at hl 0 rfl) ?_
  refine lv_iload_n (pc := 35) hx hb dJ6_bitCount_0f7a4_35 rfl (lv_at hl 0 rfl) ?_
  refine lv_bipush (pc := 36) (v := 8) hx hb dJ6_bitCount_0f7a4_36 (by decide) ?_
  refine lv_iushr (pc := 38) hx hb dJ6_bitCount_0f7a4_38 rfl ?_
  refine lv_iadd (pc := 39) hx hb dJ6_bitCount_0f7a4_39 ?_
  refine lv_topi (pc := 40) (fun x0_4 ex0_4 => ?_)
  have h := nm_at ex0_4 h
  refine lv_istore_n (pc := 40) (lv' := [(0, .int x0_4)]) hx hb dJ6_bitCount_0f7a4_40 rfl hl (by decide) rfl (fun ls hl => ?_)
  refine lv_iload_n (pc := 41) hx hb dJ6_bitCount_0f7a4_41 rfl (lv_at hl 0 rfl) ?_
  refine lv_iload_n (pc := 42) hx hb dJ6_bitCount_0f7a4_42 rfl (lv_at hl 0 rfl) ?_
  refine lv_bipush (pc := 43) (v := 16) hx hb dJ6_bitCount_0f7a4_43 (by decide) ?_
  refine lv_iushr (pc := 45) hx hb dJ6_bitCount_0f7a4_45 rfl ?_
  refine lv_iadd (pc := 46) hx hb dJ6_bitCount_0f7a4_46 ?_
  refine lv_topi (pc := 47) (fun x0_5 ex0_5 => ?_)
  have h := nm_at ex0_5 h
  refine lv_istore_n (pc := 47) (lv' := [(0, .int x0_5)]) hx hb dJ6_bitCount_0f7a4_47 rfl hl (by decide) rfl (fun ls hl => ?_)
  refine lv_iload_n (pc := 48) hx hb dJ6_bitCount_0f7a4_48 rfl (lv_at hl 0 rfl) ?_
  refine lv_bipush (pc := 49) (v := 63) hx hb dJ6_bitCount_0f7a4_49 (by decide) ?_
  refine lv_iand (pc := 51) hx hb dJ6_bitCount_0f7a4_51 ?_
  exact x_iret (pc := 52) (v := (x0_5 &&& (63 : Int32))) C h rfl hw dJ6_bitCount_0f7a4_52
def wJ7_fill_031fb (cB cI cZ : ClassId) (a_arg0 : Nat) (n_arg0 : Nat) (v_arg0 : Nat → Int32) : va_W := [(a_arg0, .inl (cB, n_arg0, .inl v_arg0))]
def fJ7_fill_031fb_L5 (x3_1 : Int32) (n_arg0 : Nat) (x1 : Int32) : Nat → Int32 → (Nat → Int32) → Option ((Nat → Int32))
  | 0, _, _ => none
  | F5_4 + 1, x2_2, v_arg0_3 => if x3_1 ≤ x2_2 then some v_arg0_3 else og (ixb x2_2 n_arg0) (nm (upd v_arg0_3 (Int32.toNatClampNeg x2_2) (vp_nar .byte x1)) fun v_arg0_7 => nm (x2_2 + 1 : Int32) fun x2_8 => fJ7_fill_031fb_L5 x3_1 n_arg0 x1 F5_4 x2_8 v_arg0_7)
def fJ7_fill_031fb (v_arg0 : Nat → Int32) (n_arg0 : Nat) (x1 : Int32) : Option ((Nat → Int32)) := nm ((Int32.ofNat n_arg0) : Int32) fun x3_1 => fJ7_fill_031fb_L5 x3_1 n_arg0 x1 FU 0 v_arg0
set_option maxHeartbeats 4000000 in
set_option maxRecDepth 100000 in
theorem ct_J7_fill_031fb (l : Launch) (D : va_G) (cB cI cZ : ClassId) (tw : Nat) (a_arg0 : Nat) (n_arg0 : Nat) (v_arg0 : Nat → Int32) (x1 : Int32) (res : (Nat → Int32)) (h : fJ7_fill_031fb v_arg0 n_arg0 x1 = some res) : Ctr l yJ7_fill_031fb cJ7_fill_031fb 4 none (rmK 0 0) D (tyL cB cI cZ) tw [.ref a_arg0, .int x1] (wJ7_fill_031fb cB cI cZ a_arg0 n_arg0 v_arg0) (fun _ : (Nat → Int32) => none) (fun res : (Nat → Int32) => (wJ7_fill_031fb cB cI cZ a_arg0 n_arg0 res)) res := by
  refine ctr_of RJ7 (by decide) rfl (Nat.le_of_ble_eq_true rfl) ?_
  intro p e s m below meth c A C hw ls hl
  have hx := C.1
  have hb := C.2.1
  have hl : lv_has ls 4 [(0, .ref a_arg0), (1, .int x1)] := hl
  unfold fJ7_fill_031fb at h
  refine lv_iconst (pc := 0) (v := 0) hx hb dJ7_fill_031fb_0 (by decide) ?_
  refine lv_istore_n (pc := 1) (lv' := [(2, .int 0), (0, .ref a_arg0), (1, .int x1)]) hx hb dJ7_fill_031fb_1 rfl hl (by decide) rfl (fun ls hl => ?_)
  refine lv_aload_n (pc := 2) hx hb dJ7_fill_031fb_2 rfl (lv_at hl 1 rfl) ?_
  refine x_ilen (pc := 3) (Int32.ofNat n_arg0) C hw 0 0 rfl rfl rfl dJ7_fill_031fb_3 ?_
  refine lv_topi (pc := 4) (fun x3_1 ex3_1 => ?_)
  have h := nm_at ex3_1 h
  refine lv_istore_n (pc := 4) (lv' := [(3, .int x3_1), (2, .int 0), (0, .ref a_arg0), (1, .int x1)]) hx hb dJ7_fill_031fb_4 rfl hl (by decide) rfl (fun ls hl => ?_)
  have Lih5_4 : ∀ (F : Nat) (x2_2 : Int32) (v_arg0_3 : Nat → Int32) (ls : Array Slot) (H : Heap) (locs : List Loc), lv_has ls 4 [(3, .int x3_1), (2, .int x2_2), (0, .ref a_arg0), (1, .int x1)] → Wd D A s (wJ7_fill_031fb cB cI cZ a_arg0 n_arg0 v_arg0_3) H locs → fJ7_fill_031fb_L5 x3_1 n_arg0 x1 F x2_2 v_arg0_3 = some res → W p l e (rmK 0 0) s m ([.ref a_arg0, .int x1] : List Value).toArray below meth c H locs 0 0 (MQ below (QG D (tyL cB cI cZ) A (fun _ : (Nat → Int32) => none) (fun res : (Nat → Int32) => (wJ7_fill_031fb cB cI cZ a_arg0 n_arg0 res)) res) ([.ref a_arg0, .int x1] : List Value).toArray s 0 0 A) (F0 m 5 ls []) := by
    intro F
    induction F with
    | zero => intro x2_2 v_arg0_3 ls H locs hl hw h; rw [fJ7_fill_031fb_L5.eq_1] at h; cases h
    | succ F5_4 ih5_4 =>
      intro x2_2 v_arg0_3 ls H locs hl hw h
      rw [fJ7_fill_031fb_L5.eq_2] at h
      refine lv_iload_n (pc := 5) hx hb dJ7_fill_031fb_5 rfl (lv_at hl 1 rfl) ?_
      refine lv_iload_n (pc := 6) hx hb dJ7_fill_031fb_6 rfl (lv_at hl 0 rfl) ?_
      refine lv_icmp_ge (pc := 7) (tgt := 20) hx hb dJ7_fill_031fb_7 (by decide) (fun hc_5 => ?_) (fun hc_5 => ?_)
      · have h := ift hc_5 h
        exact x_vret (pc := 20) (v := v_arg0_3) C (Option.some.inj h) rfl hw dJ7_fill_031fb_20
      · have h := iff' hc_5 h
        refine lv_aload_n (pc := 10) hx hb dJ7_fill_031fb_10 rfl (lv_at hl 2 rfl) ?_
        refine lv_iload_n (pc := 11) hx hb dJ7_fill_031fb_11 rfl (lv_at hl 1 rfl) ?_
        refine lv_iload_n (pc := 12) hx hb dJ7_fill_031fb_12 rfl (lv_at hl 3 rfl) ?_
        obtain ⟨hi_6, h⟩ := og_at h
        obtain ⟨v_arg0_7, ev_arg0_7⟩ : ∃ y : Nat → Int32, y = upd v_arg0_3 (Int32.toNatClampNeg x2_2) (vp_nar .byte x1) := ⟨_, rfl⟩
        have h := nm_at ev_arg0_7 h
        refine x_bast (pc := 13) (wJ7_fill_031fb cB cI cZ a_arg0 n_arg0 v_arg0_7) C hw 0 rfl hi_6 (by rw [ev_arg0_7]; rfl) dJ7_fill_031fb_13 (fun H locs hw => ?_)
        obtain ⟨x2_8, ex2_8⟩ : ∃ y : Int32, y = x2_2 + 1 := ⟨_, rfl⟩
        have h := nm_at ex2_8 h
        refine lv_iinc (pc := 14) (v := x2_8) (lv' := [(2, .int x2_8), (3, .int x3_1), (0, .ref a_arg0), (1, .int x1)]) hx hb dJ7_fill_031fb_14 hl (k := 1) rfl (by rw [ex2_8]; rfl) (by decide) rfl (fun ls hl => ?_)
        refine lv_goto (pc := 17) (tgt := 5) hx hb dJ7_fill_031fb_17 (by decide) ?_
        exact ih5_4 x2_8 v_arg0_7 ls _ _ (lv_sub hl [1, 0, 2, 3] rfl) hw h
  exact Lih5_4 FU 0 v_arg0 ls _ _ (lv_sub hl [0, 1, 2, 3] rfl) hw h
