def wX7_isTurned (cB cI cZ : ClassId) : va_W := []
def fX7_isTurned (x0 : Int32) : Int32 := jk (if x0 < (28 : Int32) then 0 else 1) fun j12_1 => if x0 < (12 : Int32) then j12_1 else if x0 < (16 : Int32) then 1 else j12_1
set_option maxHeartbeats 4000000 in
set_option maxRecDepth 100000 in
theorem ct_X7_isTurned (l : Launch) (D : va_G) (cB cI cZ : ClassId) (tw : Nat) (x0 : Int32) (res : Int32) (h : fX7_isTurned x0 = res) : Ctr l yX7_isTurned cX7_isTurned 1 (some .boolean) (rmK 0 0) D (tyL cB cI cZ) tw [.int x0] (wX7_isTurned cB cI cZ) (fun res : Int32 => some (.int res)) (fun res : Int32 => (wX7_isTurned cB cI cZ)) res := by
  refine ctr_of RX7 (by decide) rfl (Nat.le_of_ble_eq_true rfl) ?_
  intro p e s m below meth c A C hw ls hl
  have hx := C.1
  have hb := C.2.1
  have hl : lv_has ls 1 [(0, .int x0)] := hl
  unfold fX7_isTurned at h
  refine lv_iload_n (pc := 0) hx hb dX7_isTurned_0 rfl (lv_at hl 0 rfl) ?_
  refine lv_bipush (pc := 1) (v := 12) hx hb dX7_isTurned_1 (by decide) ?_
  obtain ⟨j12_1, ej12_1, h⟩ := jk_at h
  have J12_1 : ∀  (ls : Array Slot) (H : Heap) (locs : List Loc), lv_has ls 1 [(0, .int x0)] → Wd D A s (wX7_isTurned cB cI cZ) H locs → j12_1 = res → W p l e (rmK 0 0) s m ([.int x0] : List Value).toArray below meth c H locs 0 0 (MQ below (QG D (tyL cB cI cZ) A (fun res : Int32 => some (.int res)) (fun res : Int32 => (wX7_isTurned cB cI cZ)) res) ([.int x0] : List Value).toArray s 0 0 A) (F0 m 12 ls []) := by
    intro  ls H locs hl hw h
    have h := k0_at ej12_1 h
    refine lv_iload_n (pc := 12) hx hb dX7_isTurned_12 rfl (lv_at hl 0 rfl) ?_
    refine lv_bipush (pc := 13) (v := 28) hx hb dX7_isTurned_13 (by decide) ?_
    refine lv_icmp_lt (pc := 15) (tgt := 22) hx hb dX7_isTurned_15 (by decide) (fun hc_2 => ?_) (fun hc_2 => ?_)
    · have h := ift hc_2 h
      refine lv_iconst (pc := 22) (v := 0) hx hb dX7_isTurned_22 (by decide) ?_
      exact x_zret (pc := 23) (v := 0) C h rfl rfl hw dX7_isTurned_23
    · have h := iff' hc_2 h
      refine lv_iconst (pc := 18) (v := 1) hx hb dX7_isTurned_18 (by decide) ?_
      refine lv_goto (pc := 19) (tgt := 23) hx hb dX7_isTurned_19 (by decide) ?_
      exact x_zret (pc := 23) (v := 1) C h rfl rfl hw dX7_isTurned_23
  refine lv_icmp_lt (pc := 3) (tgt := 12) hx hb dX7_isTurned_3 (by decide) (fun hc_3 => ?_) (fun hc_3 => ?_)
  · have h := ift hc_3 h
    exact J12_1  ls _ _ (lv_sub hl [0] rfl) hw h
  · have h := iff' hc_3 h
    refine lv_iload_n (pc := 6) hx hb dX7_isTurned_6 rfl (lv_at hl 0 rfl) ?_
    refine lv_bipush (pc := 7) (v := 16) hx hb dX7_isTurned_7 (by decide) ?_
    refine lv_icmp_lt (pc := 9) (tgt := 18) hx hb dX7_isTurned_9 (by decide) (fun hc_4 => ?_) (fun hc_4 => ?_)
    · have h := ift hc_4 h
      refine lv_iconst (pc := 18) (v := 1) hx hb dX7_isTurned_18 (by decide) ?_
      refine lv_goto (pc := 19) (tgt := 23) hx hb dX7_isTurned_19 (by decide) ?_
      exact x_zret (pc := 23) (v := 1) C h rfl rfl hw dX7_isTurned_23
    · have h := iff' hc_4 h
      exact J12_1  ls _ _ (lv_sub hl [0] rfl) hw h
def wX7_isCell (cB cI cZ : ClassId) : va_W := []
def fX7_isCell (x0 : Int32) (x1 : Int32) : Int32 := if x0 < 0 then 0 else if (640 : Int32) ≤ x0 then 0 else if x1 < 0 then 0 else if (32 : Int32) ≤ x1 then 0 else 1
set_option maxHeartbeats 4000000 in
set_option maxRecDepth 100000 in
theorem ct_X7_isCell (l : Launch) (D : va_G) (cB cI cZ : ClassId) (tw : Nat) (x0 : Int32) (x1 : Int32) (res : Int32) (h : fX7_isCell x0 x1 = res) : Ctr l yX7_isCell cX7_isCell 2 (some .boolean) (rmK 0 0) D (tyL cB cI cZ) tw [.int x0, .int x1] (wX7_isCell cB cI cZ) (fun res : Int32 => some (.int res)) (fun res : Int32 => (wX7_isCell cB cI cZ)) res := by
  refine ctr_of RX7 (by decide) rfl (Nat.le_of_ble_eq_true rfl) ?_
  intro p e s m below meth c A C hw ls hl
  have hx := C.1
  have hb := C.2.1
  have hl : lv_has ls 2 [(0, .int x0), (1, .int x1)] := hl
  unfold fX7_isCell at h
  refine lv_iload_n (pc := 0) hx hb dX7_isCell_0 rfl (lv_at hl 0 rfl) ?_
  refine lv_if_lt (pc := 1) (tgt := 25) hx hb dX7_isCell_1 (by decide) (fun hc_1 => ?_) (fun hc_1 => ?_)
  · have h := ift hc_1 h
    refine lv_iconst (pc := 25) (v := 0) hx hb dX7_isCell_25 (by decide) ?_
    exact x_zret (pc := 26) (v := 0) C h rfl rfl hw dX7_isCell_26
  · have h := iff' hc_1 h
    refine lv_iload_n (pc := 4) hx hb dX7_isCell_4 rfl (lv_at hl 0 rfl) ?_
    refine lv_sipush (pc := 5) (v := 640) hx hb dX7_isCell_5 (by decide) ?_
    refine lv_icmp_ge (pc := 8) (tgt := 25) hx hb dX7_isCell_8 (by decide) (fun hc_2 => ?_) (fun hc_2 => ?_)
    · have h := ift hc_2 h
      refine lv_iconst (pc := 25) (v := 0) hx hb dX7_isCell_25 (by decide) ?_
      exact x_zret (pc := 26) (v := 0) C h rfl rfl hw dX7_isCell_26
    · have h := iff' hc_2 h
      refine lv_iload_n (pc := 11) hx hb dX7_isCell_11 rfl (lv_at hl 1 rfl) ?_
      refine lv_if_lt (pc := 12) (tgt := 25) hx hb dX7_isCell_12 (by decide) (fun hc_3 => ?_) (fun hc_3 => ?_)
      · have h := ift hc_3 h
        refine lv_iconst (pc := 25) (v := 0) hx hb dX7_isCell_25 (by decide) ?_
        exact x_zret (pc := 26) (v := 0) C h rfl rfl hw dX7_isCell_26
      · have h := iff' hc_3 h
        refine lv_iload_n (pc := 15) hx hb dX7_isCell_15 rfl (lv_at hl 1 rfl) ?_
        refine lv_bipush (pc := 16) (v := 32) hx hb dX7_isCell_16 (by decide) ?_
        refine lv_icmp_ge (pc := 18) (tgt := 25) hx hb dX7_isCell_18 (by decide) (fun hc_4 => ?_) (fun hc_4 => ?_)
        · have h := ift hc_4 h
          refine lv_iconst (pc := 25) (v := 0) hx hb dX7_isCell_25 (by decide) ?_
          exact x_zret (pc := 26) (v := 0) C h rfl rfl hw dX7_isCell_26
        · have h := iff' hc_4 h
          refine lv_iconst (pc := 21) (v := 1) hx hb dX7_isCell_21 (by decide) ?_
          refine lv_goto (pc := 22) (tgt := 26) hx hb dX7_isCell_22 (by decide) ?_
          exact x_zret (pc := 26) (v := 1) C h rfl rfl hw dX7_isCell_26
def wX7_set (cB cI cZ : ClassId) (a_this : Nat) (a_cells : Nat) (a_marks : Nat) (v_cells : Nat → Int32) : va_W := [oX7 a_this a_cells a_marks, (a_cells, .inl (cB, 20480, .inl v_cells))]
def fX7_set (v_cells : Nat → Int32) (x1 : Int32) (x2 : Int32) (x3 : Int32) : Option ((Nat → Int32)) := nt1 (fX7_isCell x1 x2) fun r_1 => if r_1 = 0 then some v_cells else og (ixb ((x1 * (32 : Int32)) + x2) 20480) (nm (upd v_cells (Int32.toNatClampNeg ((x1 * (32 : Int32)) + x2)) (vp_nar .byte (Int8.toInt32 (Int32.toInt8 x3)))) fun v_cells_5 => some v_cells_5)
set_option maxHeartbeats 4000000 in
set_option maxRecDepth 100000 in
theorem ct_X7_set (l : Launch) (D : va_G) (cB cI cZ : ClassId) (tw : Nat) (a_this : Nat) (a_cells : Nat) (a_marks : Nat) (v_cells : Nat → Int32) (x1 : Int32) (x2 : Int32) (x3 : Int32) (res : (Nat → Int32)) (h : fX7_set v_cells x1 x2 x3 = some res) : Ctr l yX7_set cX7_set 4 none (rmK 1 21) D (tyL cB cI cZ) tw [.ref a_this, .int x1, .int x2, .int x3] (wX7_set cB cI cZ a_this a_cells a_marks v_cells) (fun _ : (Nat → Int32) => none) (fun res : (Nat → Int32) => (wX7_set cB cI cZ a_this a_cells a_marks res)) res := by
  refine ctr_of RX7 (by decide) rfl (Nat.le_of_ble_eq_true rfl) ?_
  intro p e s m below meth c A C hw ls hl
  have hx := C.1
  have hb := C.2.1
  have hl : lv_has ls 4 [(0, .ref a_this), (1, .int x1), (2, .int x2), (3, .int x3)] := hl
  unfold fX7_set at h
  refine lv_iload_n (pc := 0) hx hb dX7_set_0 rfl (lv_at hl 1 rfl) ?_
  refine lv_iload_n (pc := 1) hx hb dX7_set_1 rfl (lv_at hl 2 rfl) ?_
  obtain ⟨r_1, hq_2, h⟩ := nt1_at h
  refine x_callS (pc := 2) (rest := []) (stk := [.int r_1]) (wX7_set cB cI cZ a_this a_cells a_marks v_cells) C hw (ct_X7_isCell l D cB cI cZ tw x1 x2 r_1 hq_2.symm) cal_X7_isCell tw_370 [] [0, 1] 2 [oX7 a_this a_cells a_marks, (a_cells, .inl (cB, 20480, .inl v_cells))] rfl rfl rfl rfl rfl rfl rfl rfl rfl rfl rfl (Nat.le_of_ble_eq_true rfl) hl.1 ⟨Nat.le_of_ble_eq_true rfl, Nat.le_of_ble_eq_true rfl⟩ ⟨Nat.zero_le _, Nat.zero_le _⟩ dX7_set_2 (fun H locs hw => ?_)
  refine lv_if_eq (pc := 5) (tgt := 21) hx hb dX7_set_5 (by decide) (fun hc_3 => ?_) (fun hc_3 => ?_)
  · have h := ift hc_3 h
    exact x_vret (pc := 21) (v := v_cells) C (Option.some.inj h) rfl hw dX7_set_21
  · have h := iff' hc_3 h
    refine lv_aload_n (pc := 8) hx hb dX7_set_8 rfl (lv_at hl 0 rfl) ?_
    refine gf_X7_9 (pc := 9) C hw 0 rfl rfl dX7_set_9 ?_
    refine lv_iload_n (pc := 12) hx hb dX7_set_12 rfl (lv_at hl 1 rfl) ?_
    refine lv_bipush (pc := 13) (v := 32) hx hb dX7_set_13 (by decide) ?_
    refine lv_imul (pc := 15) hx hb dX7_set_15 ?_
    refine lv_iload_n (pc := 16) hx hb dX7_set_16 rfl (lv_at hl 2 rfl) ?_
    refine lv_iadd (pc := 17) hx hb dX7_set_17 ?_
    refine lv_iload_n (pc := 18) hx hb dX7_set_18 rfl (lv_at hl 3 rfl) ?_
    refine lv_i2b (pc := 19) hx hb dX7_set_19 rfl ?_
    obtain ⟨hi_4, h⟩ := og_at h
    obtain ⟨v_cells_5, ev_cells_5⟩ : ∃ y : Nat → Int32, y = upd v_cells (Int32.toNatClampNeg ((x1 * (32 : Int32)) + x2)) (vp_nar .byte (Int8.toInt32 (Int32.toInt8 x3))) := ⟨_, rfl⟩
    have h := nm_at ev_cells_5 h
    refine x_bast (pc := 20) (wX7_set cB cI cZ a_this a_cells a_marks v_cells_5) C hw 1 rfl hi_4 (by rw [ev_cells_5]; rfl) dX7_set_20 (fun H locs hw => ?_)
    exact x_vret (pc := 21) (v := v_cells_5) C (Option.some.inj h) rfl hw dX7_set_21
def wX7_setMarks (cB cI cZ : ClassId) (a_this : Nat) (a_cells : Nat) (a_marks : Nat) (v_marks : Nat → Int32) : va_W := [oX7 a_this a_cells a_marks, (a_marks, .inl (cI, 640, .inl v_marks))]
def fX7_setMarks (v_marks : Nat → Int32) (x1 : Int32) (x2 : Int32) : Option ((Nat → Int32)) := if x1 < 0 then some v_marks else if (640 : Int32) ≤ x1 then some v_marks else og (ixb x1 640) (nm (upd v_marks (Int32.toNatClampNeg x1) x2) fun v_marks_4 => some v_marks_4)
set_option maxHeartbeats 4000000 in
set_option maxRecDepth 100000 in
theorem ct_X7_setMarks (l : Launch) (D : va_G) (cB cI cZ : ClassId) (tw : Nat) (a_this : Nat) (a_cells : Nat) (a_marks : Nat) (v_marks : Nat → Int32) (x1 : Int32) (x2 : Int32) (res : (Nat → Int32)) (h : fX7_setMarks v_marks x1 x2 = some res) : Ctr l yX7_setMarks cX7_setMarks 3 none (rmK 0 0) D (tyL cB cI cZ) tw [.ref a_this, .int x1, .int x2] (wX7_setMarks cB cI cZ a_this a_cells a_marks v_marks) (fun _ : (Nat → Int32) => none) (fun res : (Nat → Int32) => (wX7_setMarks cB cI cZ a_this a_cells a_marks res)) res := by
  refine ctr_of RX7 (by decide) rfl (Nat.le_of_ble_eq_true rfl) ?_
  intro p e s m below meth c A C hw ls hl
  have hx := C.1
  have hb := C.2.1
  have hl : lv_has ls 3 [(0, .ref a_this), (1, .int x1), (2, .int x2)] := hl
  unfold fX7_setMarks at h
  refine lv_iload_n (pc := 0) hx hb dX7_setMarks_0 rfl (lv_at hl 1 rfl) ?_
  refine lv_if_lt (pc := 1) (tgt := 20) hx hb dX7_setMarks_1 (by decide) (fun hc_1 => ?_) (fun hc_1 => ?_)
  · have h := ift hc_1 h
    exact x_vret (pc := 20) (v := v_marks) C (Option.some.inj h) rfl hw dX7_setMarks_20
  · have h := iff' hc_1 h
    refine lv_iload_n (pc := 4) hx hb dX7_setMarks_4 rfl (lv_at hl 1 rfl) ?_
    refine lv_aload_n (pc := 5) hx hb dX7_setMarks_5 rfl (lv_at hl 0 rfl) ?_
    refine gf_X7_15 (pc := 6) C hw 0 rfl rfl dX7_setMarks_6 ?_
    refine x_ilen (pc := 9) 640 C hw 1 1 rfl rfl (by decide) dX7_setMarks_9 ?_
    refine lv_icmp_ge (pc := 10) (tgt := 20) hx hb dX7_setMarks_10 (by decide) (fun hc_2 => ?_) (fun hc_2 => ?_)
    · have h := ift hc_2 h
      exact x_vret (pc := 20) (v := v_marks) C (Option.some.inj h) rfl hw dX7_setMarks_20
    · have h := iff' hc_2 h
      refine lv_aload_n (pc := 13) hx hb dX7_setMarks_13 rfl (lv_at hl 0 rfl) ?_
      refine gf_X7_15 (pc := 14) C hw 0 rfl rfl dX7_setMarks_14 ?_
      refine lv_iload_n (pc := 17) hx hb dX7_setMarks_17 rfl (lv_at hl 1 rfl) ?_
      refine lv_iload_n (pc := 18) hx hb dX7_setMarks_18 rfl (lv_at hl 2 rfl) ?_
      obtain ⟨hi_3, h⟩ := og_at h
      obtain ⟨v_marks_4, ev_marks_4⟩ : ∃ y : Nat → Int32, y = upd v_marks (Int32.toNatClampNeg x1) x2 := ⟨_, rfl⟩
      have h := nm_at ev_marks_4 h
      refine x_iast (pc := 19) (wX7_setMarks cB cI cZ a_this a_cells a_marks v_marks_4) C hw 1 rfl hi_3 (by rw [ev_marks_4]; rfl) dX7_setMarks_19 (fun H locs hw => ?_)
      exact x_vret (pc := 20) (v := v_marks_4) C (Option.some.inj h) rfl hw dX7_setMarks_20
def wX7_get (cB cI cZ : ClassId) (a_this : Nat) (a_cells : Nat) (a_marks : Nat) (v_cells : Nat → Int32) : va_W := [oX7 a_this a_cells a_marks, (a_cells, .inl (cB, 20480, .inl v_cells))]
def fX7_get (v_cells : Nat → Int32) (x1 : Int32) (x2 : Int32) : Option (Int32) := nt1 (fX7_isCell x1 x2) fun r_1 => if r_1 = 0 then some 0 else og (ixb ((x1 * (32 : Int32)) + x2) 20480) (some ((v_cells (Int32.toNatClampNeg ((x1 * (32 : Int32)) + x2))) &&& (255 : Int32)))
set_option maxHeartbeats 4000000 in
set_option maxRecDepth 100000 in
theorem ct_X7_get (l : Launch) (D : va_G) (cB cI cZ : ClassId) (tw : Nat) (a_this : Nat) (a_cells : Nat) (a_marks : Nat) (v_cells : Nat → Int32) (x1 : Int32) (x2 : Int32) (res : Int32) (h : fX7_get v_cells x1 x2 = some res) : Ctr l yX7_get cX7_get 3 (some .int) (rmK 1 21) D (tyL cB cI cZ) tw [.ref a_this, .int x1, .int x2] (wX7_get cB cI cZ a_this a_cells a_marks v_cells) (fun res : Int32 => some (.int res)) (fun res : Int32 => (wX7_get cB cI cZ a_this a_cells a_marks v_cells)) res := by
  refine ctr_of RX7 (by decide) rfl (Nat.le_of_ble_eq_true rfl) ?_
  intro p e s m below meth c A C hw ls hl
  have hx := C.1
  have hb := C.2.1
  have hl : lv_has ls 3 [(0, .ref a_this), (1, .int x1), (2, .int x2)] := hl
  unfold fX7_get at h
  refine lv_iload_n (pc := 0) hx hb dX7_get_0 rfl (lv_at hl 1 rfl) ?_
  refine lv_iload_n (pc := 1) hx hb dX7_get_1 rfl (lv_at hl 2 rfl) ?_
  obtain ⟨r_1, hq_2, h⟩ := nt1_at h
  refine x_callS (pc := 2) (rest := []) (stk := [.int r_1]) (wX7_get cB cI cZ a_this a_cells a_marks v_cells) C hw (ct_X7_isCell l D cB cI cZ tw x1 x2 r_1 hq_2.symm) cal_X7_isCell tw_370 [] [0, 1] 2 [oX7 a_this a_cells a_marks, (a_cells, .inl (cB, 20480, .inl v_cells))] rfl rfl rfl rfl rfl rfl rfl rfl rfl rfl rfl (Nat.le_of_ble_eq_true rfl) hl.1 ⟨Nat.le_of_ble_eq_true rfl, Nat.le_of_ble_eq_true rfl⟩ ⟨Nat.zero_le _, Nat.zero_le _⟩ dX7_get_2 (fun H locs hw => ?_)
  refine lv_if_eq (pc := 5) (tgt := 26) hx hb dX7_get_5 (by decide) (fun hc_3 => ?_) (fun hc_3 => ?_)
  · have h := ift hc_3 h
    refine lv_iconst (pc := 26) (v := 0) hx hb dX7_get_26 (by decide) ?_
    exact x_iret (pc := 27) (v := 0) C (Option.some.inj h) rfl hw dX7_get_27
  · have h := iff' hc_3 h
    refine lv_aload_n (pc := 8) hx hb dX7_get_8 rfl (lv_at hl 0 rfl) ?_
    refine gf_X7_9 (pc := 9) C hw 0 rfl rfl dX7_get_9 ?_
    refine lv_iload_n (pc := 12) hx hb dX7_get_12 rfl (lv_at hl 1 rfl) ?_
    refine lv_bipush (pc := 13) (v := 32) hx hb dX7_get_13 (by decide) ?_
    refine lv_imul (pc := 15) hx hb dX7_get_15 ?_
    refine lv_iload_n (pc := 16) hx hb dX7_get_16 rfl (lv_at hl 2 rfl) ?_
    refine lv_iadd (pc := 17) hx hb dX7_get_17 ?_
    obtain ⟨hi_4, h⟩ := og_at h
    refine x_bald (pc := 18) C hw 1 rfl hi_4 dX7_get_18 ?_
    refine lv_sipush (pc := 19) (v := 255) hx hb dX7_get_19 (by decide) ?_
    refine lv_iand (pc := 22) hx hb dX7_get_22 ?_
    refine lv_goto (pc := 23) (tgt := 27) hx hb dX7_get_23 (by decide) ?_
    exact x_iret (pc := 27) (v := ((v_cells (Int32.toNatClampNeg ((x1 * (32 : Int32)) + x2))) &&& (255 : Int32))) C (Option.some.inj h) rfl hw dX7_get_27
def wX7_marksOf (cB cI cZ : ClassId) (a_this : Nat) (a_cells : Nat) (a_marks : Nat) (v_marks : Nat → Int32) : va_W := [oX7 a_this a_cells a_marks, (a_marks, .inl (cI, 640, .inl v_marks))]
def fX7_marksOf (v_marks : Nat → Int32) (x1 : Int32) : Option (Int32) := if x1 < 0 then some (-1) else if (640 : Int32) ≤ x1 then some (-1) else og (ixb x1 640) (some (v_marks (Int32.toNatClampNeg x1)))
set_option maxHeartbeats 4000000 in
set_option maxRecDepth 100000 in
theorem ct_X7_marksOf (l : Launch) (D : va_G) (cB cI cZ : ClassId) (tw : Nat) (a_this : Nat) (a_cells : Nat) (a_marks : Nat) (v_marks : Nat → Int32) (x1 : Int32) (res : Int32) (h : fX7_marksOf v_marks x1 = some res) : Ctr l yX7_marksOf cX7_marksOf 2 (some .int) (rmK 0 0) D (tyL cB cI cZ) tw [.ref a_this, .int x1] (wX7_marksOf cB cI cZ a_this a_cells a_marks v_marks) (fun res : Int32 => some (.int res)) (fun res : Int32 => (wX7_marksOf cB cI cZ a_this a_cells a_marks v_marks)) res := by
  refine ctr_of RX7 (by decide) rfl (Nat.le_of_ble_eq_true rfl) ?_
  intro p e s m below meth c A C hw ls hl
  have hx := C.1
  have hb := C.2.1
  have hl : lv_has ls 2 [(0, .ref a_this), (1, .int x1)] := hl
  unfold fX7_marksOf at h
  refine lv_iload_n (pc := 0) hx hb dX7_marksOf_0 rfl (lv_at hl 1 rfl) ?_
  refine lv_if_lt (pc := 1) (tgt := 22) hx hb dX7_marksOf_1 (by decide) (fun hc_1 => ?_) (fun hc_1 => ?_)
  · have h := ift hc_1 h
    refine lv_iconst (pc := 22) (v := (-1)) hx hb dX7_marksOf_22 (by decide) ?_
    exact x_iret (pc := 23) (v := (-1)) C (Option.some.inj h) rfl hw dX7_marksOf_23
  · have h := iff' hc_1 h
    refine lv_iload_n (pc := 4) hx hb dX7_marksOf_4 rfl (lv_at hl 1 rfl) ?_
    refine lv_aload_n (pc := 5) hx hb dX7_marksOf_5 rfl (lv_at hl 0 rfl) ?_
    refine gf_X7_15 (pc := 6) C hw 0 rfl rfl dX7_marksOf_6 ?_
    refine x_ilen (pc := 9) 640 C hw 1 1 rfl rfl (by decide) dX7_marksOf_9 ?_
    refine lv_icmp_ge (pc := 10) (tgt := 22) hx hb dX7_marksOf_10 (by decide) (fun hc_2 => ?_) (fun hc_2 => ?_)
    · have h := ift hc_2 h
      refine lv_iconst (pc := 22) (v := (-1)) hx hb dX7_marksOf_22 (by decide) ?_
      exact x_iret (pc := 23) (v := (-1)) C (Option.some.inj h) rfl hw dX7_marksOf_23
    · have h := iff' hc_2 h
      refine lv_aload_n (pc := 13) hx hb dX7_marksOf_13 rfl (lv_at hl 0 rfl) ?_
      refine gf_X7_15 (pc := 14) C hw 0 rfl rfl dX7_marksOf_14 ?_
      refine lv_iload_n (pc := 17) hx hb dX7_marksOf_17 rfl (lv_at hl 1 rfl) ?_
      obtain ⟨hi_3, h⟩ := og_at h
      refine x_iald (pc := 18) C hw 1 rfl hi_3 dX7_marksOf_18 ?_
      refine lv_goto (pc := 19) (tgt := 23) hx hb dX7_marksOf_19 (by decide) ?_
      exact x_iret (pc := 23) (v := (v_marks (Int32.toNatClampNeg x1))) C (Option.some.inj h) rfl hw dX7_marksOf_23
def wX7_cells (cB cI cZ : ClassId) (a_this : Nat) (a_cells : Nat) (a_marks : Nat) : va_W := [oX7 a_this a_cells a_marks]
def fX7_cells  : Unit := ()
set_option maxHeartbeats 4000000 in
set_option maxRecDepth 100000 in
theorem ct_X7_cells (l : Launch) (D : va_G) (cB cI cZ : ClassId) (tw : Nat) (a_this : Nat) (a_cells : Nat) (a_marks : Nat) (res : Unit) (h : fX7_cells  = res) : Ctr l yX7_cells cX7_cells 1 (some (.array .byte)) (rmK 0 0) D (tyL cB cI cZ) tw [.ref a_this] (wX7_cells cB cI cZ a_this a_cells a_marks) (fun _ : Unit => some (.ref a_cells)) (fun res : Unit => (wX7_cells cB cI cZ a_this a_cells a_marks)) res := by
  refine ctr_of RX7 (by decide) rfl (Nat.le_of_ble_eq_true rfl) ?_
  intro p e s m below meth c A C hw ls hl
  have hx := C.1
  have hb := C.2.1
  have hl : lv_has ls 1 [(0, .ref a_this)] := hl
  unfold fX7_cells at h
  refine lv_aload_n (pc := 0) hx hb dX7_cells_0 rfl (lv_at hl 0 rfl) ?_
  refine gf_X7_9 (pc := 1) C hw 0 rfl rfl dX7_cells_1 ?_
  exact x_aret (pc := 4) (v := ()) C h (Or.inr ⟨_, rfl⟩) rfl hw dX7_cells_4
def wX7_startOf (cB cI cZ : ClassId) (a_this : Nat) : va_W := []
def fX7_startOf (x1 : Int32) : Int32 := (x1 * (32 : Int32))
set_option maxHeartbeats 4000000 in
set_option maxRecDepth 100000 in
theorem ct_X7_startOf (l : Launch) (D : va_G) (cB cI cZ : ClassId) (tw : Nat) (a_this : Nat) (x1 : Int32) (res : Int32) (h : fX7_startOf x1 = res) : Ctr l yX7_startOf cX7_startOf 2 (some .int) (rmK 0 0) D (tyL cB cI cZ) tw [.ref a_this, .int x1] (wX7_startOf cB cI cZ a_this) (fun res : Int32 => some (.int res)) (fun res : Int32 => (wX7_startOf cB cI cZ a_this)) res := by
  refine ctr_of RX7 (by decide) rfl (Nat.le_of_ble_eq_true rfl) ?_
  intro p e s m below meth c A C hw ls hl
  have hx := C.1
  have hb := C.2.1
  have hl : lv_has ls 2 [(0, .ref a_this), (1, .int x1)] := hl
  unfold fX7_startOf at h
  refine lv_iload_n (pc := 0) hx hb dX7_startOf_0 rfl (lv_at hl 1 rfl) ?_
  refine lv_bipush (pc := 1) (v := 32) hx hb dX7_startOf_1 (by decide) ?_
  refine lv_imul (pc := 3) hx hb dX7_startOf_3 ?_
  exact x_iret (pc := 4) (v := (x1 * (32 : Int32))) C h rfl hw dX7_startOf_4
def wX7_isMarked (cB cI cZ : ClassId) (a_this : Nat) (a_cells : Nat) (a_marks : Nat) (v_marks : Nat → Int32) : va_W := [oX7 a_this a_cells a_marks, (a_marks, .inl (cI, 640, .inl v_marks))]
def fX7_isMarked (v_marks : Nat → Int32) (x1 : Int32) (x2 : Int32) : Option (Int32) := ob1 (fX7_marksOf v_marks x1) fun r_1 => if ((UInt32.toInt32 (Int32.toUInt32 r_1 >>> (Int32.toUInt32 x2 &&& Int32.toUInt32 31))) &&& (1 : Int32)) = (1 : Int32) then some 1 else some 0
set_option maxHeartbeats 4000000 in
set_option maxRecDepth 100000 in
theorem ct_X7_isMarked (l : Launch) (D : va_G) (cB cI cZ : ClassId) (tw : Nat) (a_this : Nat) (a_cells : Nat) (a_marks : Nat) (v_marks : Nat → Int32) (x1 : Int32) (x2 : Int32) (res : Int32) (h : fX7_isMarked v_marks x1 x2 = some res) : Ctr l yX7_isMarked cX7_isMarked 3 (some .boolean) (rmK 1 21) D (tyL cB cI cZ) tw [.ref a_this, .int x1, .int x2] (wX7_isMarked cB cI cZ a_this a_cells a_marks v_marks) (fun res : Int32 => some (.int res)) (fun res : Int32 => (wX7_isMarked cB cI cZ a_this a_cells a_marks v_marks)) res := by
  refine ctr_of RX7 (by decide) rfl (Nat.le_of_ble_eq_true rfl) ?_
  intro p e s m below meth c A C hw ls hl
  have hx := C.1
  have hb := C.2.1
  have hl : lv_has ls 3 [(0, .ref a_this), (1, .int x1), (2, .int x2)] := hl
  unfold fX7_isMarked at h
  refine lv_aload_n (pc := 0) hx hb dX7_isMarked_0 rfl (lv_at hl 0 rfl) ?_
  refine lv_iload_n (pc := 1) hx hb dX7_isMarked_1 rfl (lv_at hl 1 rfl) ?_
  obtain ⟨r_1, hq_2, h⟩ := ob1_at h
  refine x_callV (pc := 2) (rest := []) (stk := [.int r_1]) (wX7_isMarked cB cI cZ a_this a_cells a_marks v_marks) C hw (ct_X7_marksOf l D cB cI cZ tw a_this a_cells a_marks v_marks x1 r_1 hq_2) cal_X7_marksOf tw_797 (q0 := 0) rfl rfl [0, 1] [] 2 [] rfl rfl rfl rfl rfl rfl rfl rfl rfl rfl rfl (Nat.le_of_ble_eq_true rfl) hl.1 ⟨Nat.le_of_ble_eq_true rfl, Nat.le_of_ble_eq_true rfl⟩ ⟨Nat.zero_le _, Nat.zero_le _⟩ dX7_isMarked_2 (fun H locs hw => ?_)
  refine lv_iload_n (pc := 5) hx hb dX7_isMarked_5 rfl (lv_at hl 2 rfl) ?_
  refine lv_iushr (pc := 6) hx hb dX7_isMarked_6 rfl ?_
  refine lv_iconst (pc := 7) (v := 1) hx hb dX7_isMarked_7 (by decide) ?_
  refine lv_iand (pc := 8) hx hb dX7_isMarked_8 ?_
  refine lv_iconst (pc := 9) (v := 1) hx hb dX7_isMarked_9 (by decide) ?_
  refine lv_icmp_ne (pc := 10) (tgt := 17) hx hb dX7_isMarked_10 (by decide) (fun hc_3 => ?_) (fun hc_3 => ?_)
  · have h := iff' hc_3 h
    refine lv_iconst (pc := 17) (v := 0) hx hb dX7_isMarked_17 (by decide) ?_
    exact x_zret (pc := 18) (v := 0) C (Option.some.inj h) rfl rfl hw dX7_isMarked_18
  · have h := ift hc_3 h
    refine lv_iconst (pc := 13) (v := 1) hx hb dX7_isMarked_13 (by decide) ?_
    refine lv_goto (pc := 14) (tgt := 18) hx hb dX7_isMarked_14 (by decide) ?_
    exact x_zret (pc := 18) (v := 1) C (Option.some.inj h) rfl rfl hw dX7_isMarked_18
def wX7_lagOf (cB cI cZ : ClassId) : va_W := []
def fX7_lagOf (x0 : Int32) : Int32 := if ((x0 / (4 : Int32)) - (x0 / (4 : Int32)) / (2 : Int32) * (2 : Int32)) = 0 then 2 else 0
set_option maxHeartbeats 4000000 in
set_option maxRecDepth 100000 in
theorem ct_X7_lagOf (l : Launch) (D : va_G) (cB cI cZ : ClassId) (tw : Nat) (x0 : Int32) (res : Int32) (h : fX7_lagOf x0 = res) : Ctr l yX7_lagOf cX7_lagOf 1 (some .int) (rmK 0 0) D (tyL cB cI cZ) tw [.int x0] (wX7_lagOf cB cI cZ) (fun res : Int32 => some (.int res)) (fun res : Int32 => (wX7_lagOf cB cI cZ)) res := by
  refine ctr_of RX7 (by decide) rfl (Nat.le_of_ble_eq_true rfl) ?_
  intro p e s m below meth c A C hw ls hl
  have hx := C.1
  have hb := C.2.1
  have hl : lv_has ls 1 [(0, .int x0)] := hl
  unfold fX7_lagOf at h
  refine lv_iload_n (pc := 0) hx hb dX7_lagOf_0 rfl (lv_at hl 0 rfl) ?_
  refine lv_iconst (pc := 1) (v := 4) hx hb dX7_lagOf_1 (by decide) ?_
  refine lv_idiv (pc := 2) hx hb dX7_lagOf_2 (by decide) ?_
  refine lv_iconst (pc := 3) (v := 2) hx hb dX7_lagOf_3 (by decide) ?_
  refine lv_irem (pc := 4) hx hb dX7_lagOf_4 (by decide) ?_
  refine lv_if_ne (pc := 5) (tgt := 12) hx hb dX7_lagOf_5 (by decide) (fun hc_1 => ?_) (fun hc_1 => ?_)
  · have h := iff' hc_1 h
    refine lv_iconst (pc := 12) (v := 0) hx hb dX7_lagOf_12 (by decide) ?_
    exact x_iret (pc := 13) (v := 0) C h rfl hw dX7_lagOf_13
  · have h := ift hc_1 h
    refine lv_iconst (pc := 8) (v := 2) hx hb dX7_lagOf_8 (by decide) ?_
    refine lv_goto (pc := 9) (tgt := 13) hx hb dX7_lagOf_9 (by decide) ?_
    exact x_iret (pc := 13) (v := 2) C h rfl hw dX7_lagOf_13
def wX7_placeOf (cB cI cZ : ClassId) : va_W := []
def fX7_placeOf (x0 : Int32) : Int32 := nm ((x0 / (4 : Int32)) : Int32) fun x1_1 => nm (((x0 / (2 : Int32)) - (x0 / (2 : Int32)) / (2 : Int32) * (2 : Int32)) : Int32) fun x2_2 => nm ((x0 - x0 / (2 : Int32) * (2 : Int32)) : Int32) fun x3_3 => if (x1_1 - x1_1 / (2 : Int32) * (2 : Int32)) = 0 then ((((6 : Int32) * x2_2) + x1_1) + x3_3) else (((((16 : Int32) + ((6 : Int32) * x2_2)) + x1_1) - (1 : Int32)) + x3_3)
set_option maxHeartbeats 4000000 in
set_option maxRecDepth 100000 in
theorem ct_X7_placeOf (l : Launch) (D : va_G) (cB cI cZ : ClassId) (tw : Nat) (x0 : Int32) (res : Int32) (h : fX7_placeOf x0 = res) : Ctr l yX7_placeOf cX7_placeOf 4 (some .int) (rmK 0 0) D (tyL cB cI cZ) tw [.int x0] (wX7_placeOf cB cI cZ) (fun res : Int32 => some (.int res)) (fun res : Int32 => (wX7_placeOf cB cI cZ)) res := by
  refine ctr_of RX7 (by decide) rfl (Nat.le_of_ble_eq_true rfl) ?_
  intro p e s m below meth c A C hw ls hl
  have hx := C.1
  have hb := C.2.1
  have hl : lv_has ls 4 [(0, .int x0)] := hl
  unfold fX7_placeOf at h
  refine lv_iload_n (pc := 0) hx hb dX7_placeOf_0 rfl (lv_at hl 0 rfl) ?_
  refine lv_iconst (pc := 1) (v := 4) hx hb dX7_placeOf_1 (by decide) ?_
  refine lv_idiv (pc := 2) hx hb dX7_placeOf_2 (by decide) ?_
  refine lv_topi (pc := 3) (fun x1_1 ex1_1 => ?_)
  have h := nm_at ex1_1 h
  refine lv_istore_n (pc := 3) (lv' := [(1, .int x1_1), (0, .int x0)]) hx hb dX7_placeOf_3 rfl hl (by decide) rfl (fun ls hl => ?_)
  refine lv_iload_n (pc := 4) hx hb dX7_placeOf_4 rfl (lv_at hl 1 rfl) ?_
  refine lv_iconst (pc := 5) (v := 2) hx hb dX7_placeOf_5 (by decide) ?_
  refine lv_idiv (pc := 6) hx hb dX7_placeOf_6 (by decide) ?_
  refine lv_iconst (pc := 7) (v := 2) hx hb dX7_placeOf_7 (by decide) ?_
  refine lv_irem (pc := 8) hx hb dX7_placeOf_8 (by decide) ?_
  refine lv_topi (pc := 9) (fun x2_2 ex2_2 => ?_)
  have h := nm_at ex2_2 h
  refine lv_istore_n (pc := 9) (lv' := [(2, .int x2_2), (1, .int x1_1), (0, .int x0)]) hx hb dX7_placeOf_9 rfl hl (by decide) rfl (fun ls hl => ?_)
  refine lv_iload_n (pc := 10) hx hb dX7_placeOf_10 rfl (lv_at hl 2 rfl) ?_
  refine lv_iconst (pc := 11) (v := 2) hx hb dX7_placeOf_11 (by decide) ?_
  refine lv_irem (pc := 12) hx hb dX7_placeOf_12 (by decide) ?_
  refine lv_topi (pc := 13) (fun x3_3 ex3_3 => ?_)
  have h := nm_at ex3_3 h
  refine lv_istore_n (pc := 13) (lv' := [(3, .int x3_3), (2, .int x2_2), (1, .int x1_1), (0, .int x0)]) hx hb dX7_placeOf_13 rfl hl (by decide) rfl (fun ls hl => ?_)
  refine lv_iload_n (pc := 14) hx hb dX7_placeOf_14 rfl (lv_at hl 2 rfl) ?_
  refine lv_iconst (pc := 15) (v := 2) hx hb dX7_placeOf_15 (by decide) ?_
  refine lv_irem (pc := 16) hx hb dX7_placeOf_16 (by decide) ?_
  refine lv_if_ne (pc := 17) (tgt := 31) hx hb dX7_placeOf_17 (by decide) (fun hc_4 => ?_) (fun hc_4 => ?_)
  · have h := iff' hc_4 h
    refine lv_bipush (pc := 31) (v := 16) hx hb dX7_placeOf_31 (by decide) ?_
    refine lv_bipush (pc := 33) (v := 6) hx hb dX7_placeOf_33 (by decide) ?_
    refine lv_iload_n (pc := 35) hx hb dX7_placeOf_35 rfl (lv_at hl 1 rfl) ?_
    refine lv_imul (pc := 36) hx hb dX7_placeOf_36 ?_
    refine lv_iadd (pc := 37) hx hb dX7_placeOf_37 ?_
    refine lv_iload_n (pc := 38) hx hb dX7_placeOf_38 rfl (lv_at hl 2 rfl) ?_
    refine lv_iadd (pc := 39) hx hb dX7_placeOf_39 ?_
    refine lv_iconst (pc := 40) (v := 1) hx hb dX7_placeOf_40 (by decide) ?_
    refine lv_isub (pc := 41) hx hb dX7_placeOf_41 ?_
    refine lv_iload_n (pc := 42) hx hb dX7_placeOf_42 rfl (lv_at hl 0 rfl) ?_
    refine lv_iadd (pc := 43) hx hb dX7_placeOf_43 ?_
    exact x_iret (pc := 44) (v := (((((16 : Int32) + ((6 : Int32) * x2_2)) + x1_1) - (1 : Int32)) + x3_3)) C h rfl hw dX7_placeOf_44
  · have h := ift hc_4 h
    refine lv_bipush (pc := 20) (v := 6) hx hb dX7_placeOf_20 (by decide) ?_
    refine lv_iload_n (pc := 22) hx hb dX7_placeOf_22 rfl (lv_at hl 1 rfl) ?_
    refine lv_imul (pc := 23) hx hb dX7_placeOf_23 ?_
    refine lv_iload_n (pc := 24) hx hb dX7_placeOf_24 rfl (lv_at hl 2 rfl) ?_
    refine lv_iadd (pc := 25) hx hb dX7_placeOf_25 ?_
    refine lv_iload_n (pc := 26) hx hb dX7_placeOf_26 rfl (lv_at hl 0 rfl) ?_
    refine lv_iadd (pc := 27) hx hb dX7_placeOf_27 ?_
    refine lv_goto (pc := 28) (tgt := 44) hx hb dX7_placeOf_28 (by decide) ?_
    exact x_iret (pc := 44) (v := ((((6 : Int32) * x2_2) + x1_1) + x3_3)) C h rfl hw dX7_placeOf_44
def wX7_empty (cB cI cZ : ClassId) (a_this : Nat) (a_cells : Nat) (a_marks : Nat) (v_cells : Nat → Int32) (v_marks : Nat → Int32) : va_W := [oX7 a_this a_cells a_marks, (a_cells, .inl (cB, 20480, .inl v_cells)), (a_marks, .inl (cI, 640, .inl v_marks))]
def fX7_empty (v_cells : Nat → Int32) (v_marks : Nat → Int32) : Option ((Nat → Int32) × (Nat → Int32)) := ob1 (fJ7_fill_031fb v_cells 20480 0) fun v_cells_1 => ob1 (fJ7_fill_53178 v_marks 640 0) fun v_marks_3 => some (v_cells_1, v_marks_3)
set_option maxHeartbeats 4000000 in
set_option maxRecDepth 100000 in
theorem ct_X7_empty (l : Launch) (D : va_G) (cB cI cZ : ClassId) (tw : Nat) (a_this : Nat) (a_cells : Nat) (a_marks : Nat) (v_cells : Nat → Int32) (v_marks : Nat → Int32) (res : (Nat → Int32) × (Nat → Int32)) (h : fX7_empty v_cells v_marks = some res) : Ctr l yX7_empty cX7_empty 1 none (rmK 1 23) D (tyL cB cI cZ) tw [.ref a_this] (wX7_empty cB cI cZ a_this a_cells a_marks v_cells v_marks) (fun _ : (Nat → Int32) × (Nat → Int32) => none) (fun res : (Nat → Int32) × (Nat → Int32) => (wX7_empty cB cI cZ a_this a_cells a_marks (res.1) (res.2))) res := by
  refine ctr_of RX7 (by decide) rfl (Nat.le_of_ble_eq_true rfl) ?_
  intro p e s m below meth c A C hw ls hl
  have hx := C.1
  have hb := C.2.1
  have hl : lv_has ls 1 [(0, .ref a_this)] := hl
  unfold fX7_empty at h
  refine lv_aload_n (pc := 0) hx hb dX7_empty_0 rfl (lv_at hl 0 rfl) ?_
  refine gf_X7_9 (pc := 1) C hw 0 rfl rfl dX7_empty_1 ?_
  refine lv_iconst (pc := 4) (v := 0) hx hb dX7_empty_4 (by decide) ?_
  obtain ⟨v_cells_1, hq_2, h⟩ := ob1_at h
  refine x_callS (pc := 5) (rest := []) (stk := []) (wX7_empty cB cI cZ a_this a_cells a_marks v_cells_1 v_marks) C hw (ct_J7_fill_031fb l D cB cI cZ tw a_cells 20480 v_cells 0 v_cells_1 hq_2) cal_J7_fill_031fb tw_352 [1] [0, 2] 3 [oX7 a_this a_cells a_marks, (a_marks, .inl (cI, 640, .inl v_marks))] rfl rfl rfl rfl rfl rfl rfl rfl rfl rfl rfl (Nat.le_of_ble_eq_true rfl) hl.1 ⟨Nat.le_of_ble_eq_true rfl, Nat.le_of_ble_eq_true rfl⟩ ⟨Nat.zero_le _, Nat.zero_le _⟩ dX7_empty_5 (fun H locs hw => ?_)
  refine lv_aload_n (pc := 8) hx hb dX7_empty_8 rfl (lv_at hl 0 rfl) ?_
  refine gf_X7_15 (pc := 9) C hw 0 rfl rfl dX7_empty_9 ?_
  refine lv_iconst (pc := 12) (v := 0) hx hb dX7_empty_12 (by decide) ?_
  obtain ⟨v_marks_3, hq_4, h⟩ := ob1_at h
  refine x_callS (pc := 13) (rest := []) (stk := []) (wX7_empty cB cI cZ a_this a_cells a_marks v_cells_1 v_marks_3) C hw (ct_J7_fill_53178 l D cB cI cZ tw a_marks 640 v_marks 0 v_marks_3 hq_4) cal_J7_fill_53178 tw_355 [2] [0, 1] 3 [oX7 a_this a_cells a_marks, (a_cells, .inl (cB, 20480, .inl v_cells_1))] rfl rfl rfl rfl rfl rfl rfl rfl rfl rfl rfl (Nat.le_of_ble_eq_true rfl) hl.1 ⟨Nat.le_of_ble_eq_true rfl, Nat.le_of_ble_eq_true rfl⟩ ⟨Nat.zero_le _, Nat.zero_le _⟩ dX7_empty_13 (fun H locs hw => ?_)
  exact x_vret (pc := 16) (v := (v_cells_1, v_marks_3)) C (Option.some.inj h) rfl hw dX7_empty_16
