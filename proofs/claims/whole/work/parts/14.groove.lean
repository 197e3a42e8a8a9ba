def wX3_reset (cB cI cZ : ClassId) (a_this : Nat) (a_packed : Nat) (v_size : Int32) (v_pressed : Int32) (v_packed : Nat → Int32) : va_W := [oX3 a_this a_packed v_size v_pressed, (a_packed, .inl (cI, 11250, .inl v_packed))]
def fX3_reset (v_pressed : Int32) (v_size : Int32) (v_packed : Nat → Int32) (x1 : Int32) : Option (Int32 × Int32 × (Nat → Int32)) := ob1 (fJ7_fill_53178 v_packed 11250 0) fun v_packed_1 => some (x1, 0, v_packed_1)
set_option maxHeartbeats 4000000 in
set_option maxRecDepth 100000 in
theorem ct_X3_reset (l : Launch) (D : va_G) (cB cI cZ : ClassId) (tw : Nat) (a_this : Nat) (a_packed : Nat) (v_size : Int32) (v_pressed : Int32) (v_packed : Nat → Int32) (x1 : Int32) (res : Int32 × Int32 × (Nat → Int32)) (h : fX3_reset v_pressed v_size v_packed x1 = some res) : Ctr l yX3_reset cX3_reset 2 none (rmK 1 23) D (tyL cB cI cZ) tw [.ref a_this, .int x1] (wX3_reset cB cI cZ a_this a_packed v_size v_pressed v_packed) (fun _ : Int32 × Int32 × (Nat → Int32) => none) (fun res : Int32 × Int32 × (Nat → Int32) => (wX3_reset cB cI cZ a_this a_packed (res.2.1) (res.1) (res.2.2))) res := by
  refine ctr_of RX3 (by decide) rfl (Nat.le_of_ble_eq_true rfl) ?_
  intro p e s m below meth c A C hw ls hl
  have hx := C.1
  have hb := C.2.1
  have hl : lv_has ls 2 [(0, .ref a_this), (1, .int x1)] := hl
  unfold fX3_reset at h
  refine lv_aload_n (pc := 0) hx hb dX3_reset_0 rfl (lv_at hl 0 rfl) ?_
  refine gf_X3_9 (pc := 1) C hw 0 rfl rfl dX3_reset_1 ?_
  refine lv_iconst (pc := 4) (v := 0) hx hb dX3_reset_4 (by decide) ?_
  obtain ⟨v_packed_1, hq_2, h⟩ := ob1_at h
  refine x_callS (pc := 5) (rest := []) (stk := []) (wX3_reset cB cI cZ a_this a_packed v_size v_pressed v_packed_1) C hw (ct_J7_fill_53178 l D cB cI cZ tw a_packed 11250 v_packed 0 v_packed_1 hq_2) cal_J7_fill_53178 tw_345 [1] [0] 2 [oX3 a_this a_packed v_size v_pressed] rfl rfl rfl rfl rfl rfl rfl rfl rfl rfl rfl (Nat.le_of_ble_eq_true rfl) hl.1 ⟨Nat.le_of_ble_eq_true rfl, Nat.le_of_ble_eq_true rfl⟩ ⟨Nat.zero_le _, Nat.zero_le _⟩ dX3_reset_5 (fun H locs hw => ?_)
  refine lv_aload_n (pc := 8) hx hb dX3_reset_8 rfl (lv_at hl 0 rfl) ?_
  refine lv_iconst (pc := 9) (v := 0) hx hb dX3_reset_9 (by decide) ?_
  refine pf_X3_21 (pc := 10) (wX3_reset cB cI cZ a_this a_packed 0 v_pressed v_packed_1) C hw 0 rfl rfl rfl rfl (Nat.le_of_ble_eq_true rfl) dX3_reset_10 (fun H locs hw => ?_)
  refine lv_aload_n (pc := 13) hx hb dX3_reset_13 rfl (lv_at hl 0 rfl) ?_
  refine lv_iload_n (pc := 14) hx hb dX3_reset_14 rfl (lv_at hl 1 rfl) ?_
  refine pf_X3_25 (pc := 15) (wX3_reset cB cI cZ a_this a_packed 0 x1 v_packed_1) C hw 0 rfl rfl rfl rfl (Nat.le_of_ble_eq_true rfl) dX3_reset_15 (fun H locs hw => ?_)
  exact x_vret (pc := 18) (v := (x1, 0, v_packed_1)) C (Option.some.inj h) rfl hw dX3_reset_18
def wX3_size (cB cI cZ : ClassId) (a_this : Nat) (a_packed : Nat) (v_size : Int32) (v_pressed : Int32) : va_W := [oX3 a_this a_packed v_size v_pressed]
def fX3_size (v_size : Int32) : Int32 := v_size
set_option maxHeartbeats 4000000 in
set_option maxRecDepth 100000 in
theorem ct_X3_size (l : Launch) (D : va_G) (cB cI cZ : ClassId) (tw : Nat) (a_this : Nat) (a_packed : Nat) (v_size : Int32) (v_pressed : Int32) (res : Int32) (h : fX3_size v_size = res) : Ctr l yX3_size cX3_size 1 (some .int) (rmK 0 0) D (tyL cB cI cZ) tw [.ref a_this] (wX3_size cB cI cZ a_this a_packed v_size v_pressed) (fun res : Int32 => some (.int res)) (fun res : Int32 => (wX3_size cB cI cZ a_this a_packed v_size v_pressed)) res := by
  refine ctr_of RX3 (by decide) rfl (Nat.le_of_ble_eq_true rfl) ?_
  intro p e s m below meth c A C hw ls hl
  have hx := C.1
  have hb := C.2.1
  have hl : lv_has ls 1 [(0, .ref a_this)] := hl
  unfold fX3_size at h
  refine lv_aload_n (pc := 0) hx hb dX3_size_0 rfl (lv_at hl 0 rfl) ?_
  refine gf_X3_21 (pc := 1) C hw 0 rfl rfl dX3_size_1 ?_
  exact x_iret (pc := 4) (v := v_size) C h rfl hw dX3_size_4
def wX3_framesPressed (cB cI cZ : ClassId) (a_this : Nat) (a_packed : Nat) (v_size : Int32) (v_pressed : Int32) : va_W := [oX3 a_this a_packed v_size v_pressed]
def fX3_framesPressed (v_pressed : Int32) : Int32 := v_pressed
set_option maxHeartbeats 4000000 in
set_option maxRecDepth 100000 in
theorem ct_X3_framesPressed (l : Launch) (D : va_G) (cB cI cZ : ClassId) (tw : Nat) (a_this : Nat) (a_packed : Nat) (v_size : Int32) (v_pressed : Int32) (res : Int32) (h : fX3_framesPressed v_pressed = res) : Ctr l yX3_framesPressed cX3_framesPressed 1 (some .int) (rmK 0 0) D (tyL cB cI cZ) tw [.ref a_this] (wX3_framesPressed cB cI cZ a_this a_packed v_size v_pressed) (fun res : Int32 => some (.int res)) (fun res : Int32 => (wX3_framesPressed cB cI cZ a_this a_packed v_size v_pressed)) res := by
  refine ctr_of RX3 (by decide) rfl (Nat.le_of_ble_eq_true rfl) ?_
  intro p e s m below meth c A C hw ls hl
  have hx := C.1
  have hb := C.2.1
  have hl : lv_has ls 1 [(0, .ref a_this)] := hl
  unfold fX3_framesPressed at h
  refine lv_aload_n (pc := 0) hx hb dX3_framesPressed_0 rfl (lv_at hl 0 rfl) ?_
  refine gf_X3_25 (pc := 1) C hw 0 rfl rfl dX3_framesPressed_1 ?_
  exact x_iret (pc := 4) (v := v_pressed) C h rfl hw dX3_framesPressed_4
def wX3_wasPressed (cB cI cZ : ClassId) (a_this : Nat) (a_packed : Nat) (v_size : Int32) (v_pressed : Int32) : va_W := [oX3 a_this a_packed v_size v_pressed]
def fX3_wasPressed (v_pressed : Int32) (x1 : Int32) : Int32 := if x1 < 0 then 0 else if v_pressed ≤ x1 then 0 else 1
set_option maxHeartbeats 4000000 in
set_option maxRecDepth 100000 in
theorem ct_X3_wasPressed (l : Launch) (D : va_G) (cB cI cZ : ClassId) (tw : Nat) (a_this : Nat) (a_packed : Nat) (v_size : Int32) (v_pressed : Int32) (x1 : Int32) (res : Int32) (h : fX3_wasPressed v_pressed x1 = res) : Ctr l yX3_wasPressed cX3_wasPressed 2 (some .boolean) (rmK 0 0) D (tyL cB cI cZ) tw [.ref a_this, .int x1] (wX3_wasPressed cB cI cZ a_this a_packed v_size v_pressed) (fun res : Int32 => some (.int res)) (fun res : Int32 => (wX3_wasPressed cB cI cZ a_this a_packed v_size v_pressed)) res := by
  refine ctr_of RX3 (by decide) rfl (Nat.le_of_ble_eq_true rfl) ?_
  intro p e s m below meth c A C hw ls hl
  have hx := C.1
  have hb := C.2.1
  have hl : lv_has ls 2 [(0, .ref a_this), (1, .int x1)] := hl
  unfold fX3_wasPressed at h
  refine lv_iload_n (pc := 0) hx hb dX3_wasPressed_0 rfl (lv_at hl 1 rfl) ?_
  refine lv_if_lt (pc := 1) (tgt := 16) hx hb dX3_wasPressed_1 (by decide) (fun hc_1 => ?_) (fun hc_1 => ?_)
  · have h := ift hc_1 h
    refine lv_iconst (pc := 16) (v := 0) hx hb dX3_wasPressed_16 (by decide) ?_
    exact x_zret (pc := 17) (v := 0) C h rfl rfl hw dX3_wasPressed_17
  · have h := iff' hc_1 h
    refine lv_iload_n (pc := 4) hx hb dX3_wasPressed_4 rfl (lv_at hl 1 rfl) ?_
    refine lv_aload_n (pc := 5) hx hb dX3_wasPressed_5 rfl (lv_at hl 0 rfl) ?_
    refine gf_X3_25 (pc := 6) C hw 0 rfl rfl dX3_wasPressed_6 ?_
    refine lv_icmp_ge (pc := 9) (tgt := 16) hx hb dX3_wasPressed_9 (by decide) (fun hc_2 => ?_) (fun hc_2 => ?_)
    · have h := ift hc_2 h
      refine lv_iconst (pc := 16) (v := 0) hx hb dX3_wasPressed_16 (by decide) ?_
      exact x_zret (pc := 17) (v := 0) C h rfl rfl hw dX3_wasPressed_17
    · have h := iff' hc_2 h
      refine lv_iconst (pc := 12) (v := 1) hx hb dX3_wasPressed_12 (by decide) ?_
      refine lv_goto (pc := 13) (tgt := 17) hx hb dX3_wasPressed_13 (by decide) ?_
      exact x_zret (pc := 17) (v := 1) C h rfl rfl hw dX3_wasPressed_17
def wX3_has (cB cI cZ : ClassId) (a_this : Nat) (a_packed : Nat) (v_size : Int32) (v_pressed : Int32) : va_W := [oX3 a_this a_packed v_size v_pressed]
def fX3_has (v_size : Int32) (x1 : Int32) : Int32 := if x1 < 0 then 0 else if v_size ≤ x1 then 0 else 1
set_option maxHeartbeats 4000000 in
set_option maxRecDepth 100000 in
theorem ct_X3_has (l : Launch) (D : va_G) (cB cI cZ : ClassId) (tw : Nat) (a_this : Nat) (a_packed : Nat) (v_size : Int32) (v_pressed : Int32) (x1 : Int32) (res : Int32) (h : fX3_has v_size x1 = res) : Ctr l yX3_has cX3_has 2 (some .boolean) (rmK 0 0) D (tyL cB cI cZ) tw [.ref a_this, .int x1] (wX3_has cB cI cZ a_this a_packed v_size v_pressed) (fun res : Int32 => some (.int res)) (fun res : Int32 => (wX3_has cB cI cZ a_this a_packed v_size v_pressed)) res := by
  refine ctr_of RX3 (by decide) rfl (Nat.le_of_ble_eq_true rfl) ?_
  intro p e s m below meth c A C hw ls hl
  have hx := C.1
  have hb := C.2.1
  have hl : lv_has ls 2 [(0, .ref a_this), (1, .int x1)] := hl
  unfold fX3_has at h
  refine lv_iload_n (pc := 0) hx hb dX3_has_0 rfl (lv_at hl 1 rfl) ?_
  refine lv_if_lt (pc := 1) (tgt := 16) hx hb dX3_has_1 (by decide) (fun hc_1 => ?_) (fun hc_1 => ?_)
  · have h := ift hc_1 h
    refine lv_iconst (pc := 16) (v := 0) hx hb dX3_has_16 (by decide) ?_
    exact x_zret (pc := 17) (v := 0) C h rfl rfl hw dX3_has_17
  · have h := iff' hc_1 h
    refine lv_iload_n (pc := 4) hx hb dX3_has_4 rfl (lv_at hl 1 rfl) ?_
    refine lv_aload_n (pc := 5) hx hb dX3_has_5 rfl (lv_at hl 0 rfl) ?_
    refine gf_X3_21 (pc := 6) C hw 0 rfl rfl dX3_has_6 ?_
    refine lv_icmp_ge (pc := 9) (tgt := 16) hx hb dX3_has_9 (by decide) (fun hc_2 => ?_) (fun hc_2 => ?_)
    · have h := ift hc_2 h
      refine lv_iconst (pc := 16) (v := 0) hx hb dX3_has_16 (by decide) ?_
      exact x_zret (pc := 17) (v := 0) C h rfl rfl hw dX3_has_17
    · have h := iff' hc_2 h
      refine lv_iconst (pc := 12) (v := 1) hx hb dX3_has_12 (by decide) ?_
      refine lv_goto (pc := 13) (tgt := 17) hx hb dX3_has_13 (by decide) ?_
      exact x_zret (pc := 17) (v := 1) C h rfl rfl hw dX3_has_17
def wX3_cell (cB cI cZ : ClassId) (a_this : Nat) (a_packed : Nat) (v_size : Int32) (v_pressed : Int32) (v_packed : Nat → Int32) : va_W := [oX3 a_this a_packed v_size v_pressed, (a_packed, .inl (cI, 11250, .inl v_packed))]
def fX3_cell (v_packed : Nat → Int32) (x1 : Int32) : Option (Int32) := if x1 < 0 then some 0 else if (11250 : Int32) ≤ x1 then some 0 else og (ixb x1 11250) (some (v_packed (Int32.toNatClampNeg x1)))
set_option maxHeartbeats 4000000 in
set_option maxRecDepth 100000 in
theorem ct_X3_cell (l : Launch) (D : va_G) (cB cI cZ : ClassId) (tw : Nat) (a_this : Nat) (a_packed : Nat) (v_size : Int32) (v_pressed : Int32) (v_packed : Nat → Int32) (x1 : Int32) (res : Int32) (h : fX3_cell v_packed x1 = some res) : Ctr l yX3_cell cX3_cell 2 (some .int) (rmK 0 0) D (tyL cB cI cZ) tw [.ref a_this, .int x1] (wX3_cell cB cI cZ a_this a_packed v_size v_pressed v_packed) (fun res : Int32 => some (.int res)) (fun res : Int32 => (wX3_cell cB cI cZ a_this a_packed v_size v_pressed v_packed)) res := by
  refine ctr_of RX3 (by decide) rfl (Nat.le_of_ble_eq_true rfl) ?_
  intro p e s m below meth c A C hw ls hl
  have hx := C.1
  have hb := C.2.1
  have hl : lv_has ls 2 [(0, .ref a_this), (1, .int x1)] := hl
  unfold fX3_cell at h
  refine lv_iload_n (pc := 0) hx hb dX3_cell_0 rfl (lv_at hl 1 rfl) ?_
  refine lv_if_lt (pc := 1) (tgt := 22) hx hb dX3_cell_1 (by decide) (fun hc_1 => ?_) (fun hc_1 => ?_)
  · have h := ift hc_1 h
    refine lv_iconst (pc := 22) (v := 0) hx hb dX3_cell_22 (by decide) ?_
    exact x_iret (pc := 23) (v := 0) C (Option.some.inj h) rfl hw dX3_cell_23
  · have h := iff' hc_1 h
    refine lv_iload_n (pc := 4) hx hb dX3_cell_4 rfl (lv_at hl 1 rfl) ?_
    refine lv_aload_n (pc := 5) hx hb dX3_cell_5 rfl (lv_at hl 0 rfl) ?_
    refine gf_X3_9 (pc := 6) C hw 0 rfl rfl dX3_cell_6 ?_
    refine x_ilen (pc := 9) 11250 C hw 1 1 rfl rfl (by decide) dX3_cell_9 ?_
    refine lv_icmp_ge (pc := 10) (tgt := 22) hx hb dX3_cell_10 (by decide) (fun hc_2 => ?_) (fun hc_2 => ?_)
    · have h := ift hc_2 h
      refine lv_iconst (pc := 22) (v := 0) hx hb dX3_cell_22 (by decide) ?_
      exact x_iret (pc := 23) (v := 0) C (Option.some.inj h) rfl hw dX3_cell_23
    · have h := iff' hc_2 h
      refine lv_aload_n (pc := 13) hx hb dX3_cell_13 rfl (lv_at hl 0 rfl) ?_
      refine gf_X3_9 (pc := 14) C hw 0 rfl rfl dX3_cell_14 ?_
      refine lv_iload_n (pc := 17) hx hb dX3_cell_17 rfl (lv_at hl 1 rfl) ?_
      obtain ⟨hi_3, h⟩ := og_at h
      refine x_iald (pc := 18) C hw 1 rfl hi_3 dX3_cell_18 ?_
      refine lv_goto (pc := 19) (tgt := 23) hx hb dX3_cell_19 (by decide) ?_
      exact x_iret (pc := 23) (v := (v_packed (Int32.toNatClampNeg x1))) C (Option.some.inj h) rfl hw dX3_cell_23
def wX3_peek (cB cI cZ : ClassId) (a_this : Nat) (a_packed : Nat) (v_size : Int32) (v_pressed : Int32) (v_packed : Nat → Int32) : va_W := [oX3 a_this a_packed v_size v_pressed, (a_packed, .inl (cI, 11250, .inl v_packed))]
def fX3_peek (v_packed : Nat → Int32) (x1 : Int32) : Option (Int32) := nm ((x1 >>> ((5 : Int32) &&& 31) : Int32) : Int32) fun x2_1 => nm ((x1 &&& (31 : Int32)) : Int32) fun x3_2 => if x3_2 = 0 then ob1 (fX3_cell v_packed x2_1) fun r_8 => some r_8 else ob1 (fX3_cell v_packed x2_1) fun r_4 => ob1 (fX3_cell v_packed (x2_1 + (1 : Int32))) fun r_6 => some ((r_4 <<< (x3_2 &&& 31) : Int32) ||| (UInt32.toInt32 (Int32.toUInt32 r_6 >>> (Int32.toUInt32 ((32 : Int32) - x3_2) &&& Int32.toUInt32 31))))
set_option maxHeartbeats 4000000 in
set_option maxRecDepth 100000 in
theorem ct_X3_peek (l : Launch) (D : va_G) (cB cI cZ : ClassId) (tw : Nat) (a_this : Nat) (a_packed : Nat) (v_size : Int32) (v_pressed : Int32) (v_packed : Nat → Int32) (x1 : Int32) (res : Int32) (h : fX3_peek v_packed x1 = some res) : Ctr l yX3_peek cX3_peek 4 (some .int) (rmK 1 21) D (tyL cB cI cZ) tw [.ref a_this, .int x1] (wX3_peek cB cI cZ a_this a_packed v_size v_pressed v_packed) (fun res : Int32 => some (.int res)) (fun res : Int32 => (wX3_peek cB cI cZ a_this a_packed v_size v_pressed v_packed)) res := by
  refine ctr_of RX3 (by decide) rfl (Nat.le_of_ble_eq_true rfl) ?_
  intro p e s m below meth c A C hw ls hl
  have hx := C.1
  have hb := C.2.1
  have hl : lv_has ls 4 [(0, .ref a_this), (1, .int x1)] := hl
  unfold fX3_peek at h
  refine lv_iload_n (pc := 0) hx hb dX3_peek_0 rfl (lv_at hl 1 rfl) ?_
  refine lv_iconst (pc := 1) (v := 5) hx hb dX3_peek_1 (by decide) ?_
  refine lv_ishr (pc := 2) hx hb dX3_peek_2 ?_
  refine lv_topi (pc := 3) (fun x2_1 ex2_1 => ?_)
  have h := nm_at ex2_1 h
  refine lv_istore_n (pc := 3) (lv' := [(2, .int x2_1), (0, .ref a_this), (1, .int x1)]) hx hb dX3_peek_3 rfl hl (by decide) rfl (fun ls hl => ?_)
  refine lv_iload_n (pc := 4) hx hb dX3_peek_4 rfl (lv_at hl 2 rfl) ?_
  refine lv_bipush (pc := 5) (v := 31) hx hb dX3_peek_5 (by decide) ?_
  refine lv_iand (pc := 7) hx hb dX3_peek_7 ?_
  refine lv_topi (pc := 8) (fun x3_2 ex3_2 => ?_)
  have h := nm_at ex3_2 h
  refine lv_istore_n (pc := 8) (lv' := [(3, .int x3_2), (2, .int x2_1), (0, .ref a_this), (1, .int x1)]) hx hb dX3_peek_8 rfl hl (by decide) rfl (fun ls hl => ?_)
  refine lv_iload_n (pc := 9) hx hb dX3_peek_9 rfl (lv_at hl 0 rfl) ?_
  refine lv_if_ne (pc := 10) (tgt := 21) hx hb dX3_peek_10 (by decide) (fun hc_3 => ?_) (fun hc_3 => ?_)
  · have h := iff' hc_3 h
    refine lv_aload_n (pc := 21) hx hb dX3_peek_21 rfl (lv_at hl 2 rfl) ?_
    refine lv_iload_n (pc := 22) hx hb dX3_peek_22 rfl (lv_at hl 1 rfl) ?_
    obtain ⟨r_4, hq_5, h⟩ := ob1_at h
    refine x_callV (pc := 23) (rest := []) (stk := [.int r_4]) (wX3_peek cB cI cZ a_this a_packed v_size v_pressed v_packed) C hw (ct_X3_cell l D cB cI cZ tw a_this a_packed v_size v_pressed v_packed x2_1 r_4 hq_5) cal_X3_cell tw_592 (q0 := 0) rfl rfl [0, 1] [] 2 [] rfl rfl rfl rfl rfl rfl rfl rfl rfl rfl rfl (Nat.le_of_ble_eq_true rfl) hl.1 ⟨Nat.le_of_ble_eq_true rfl, Nat.le_of_ble_eq_true rfl⟩ ⟨Nat.zero_le _, Nat.zero_le _⟩ dX3_peek_23 (fun H locs hw => ?_)
    refine lv_iload_n (pc := 26) hx hb dX3_peek_26 rfl (lv_at hl 0 rfl) ?_
    refine lv_ishl (pc := 27) hx hb dX3_peek_27 ?_
    refine lv_aload_n (pc := 28) hx hb dX3_peek_28 rfl (lv_at hl 2 rfl) ?_
    refine lv_iload_n (pc := 29) hx hb dX3_peek_29 rfl (lv_at hl 1 rfl) ?_
    refine lv_iconst (pc := 30) (v := 1) hx hb dX3_peek_30 (by decide) ?_
    refine lv_iadd (pc := 31) hx hb dX3_peek_31 ?_
    obtain ⟨r_6, hq_7, h⟩ := ob1_at h
    refine x_callV (pc := 32) (rest := [.int (r_4 <<< (x3_2 &&& 31) : Int32)]) (stk := [.int r_6, .int (r_4 <<< (x3_2 &&& 31) : Int32)]) (wX3_peek cB cI cZ a_this a_packed v_size v_pressed v_packed) C hw (ct_X3_cell l D cB cI cZ tw a_this a_packed v_size v_pressed v_packed (x2_1 + (1 : Int32)) r_6 hq_7) cal_X3_cell tw_592 (q0 := 0) rfl rfl [0, 1] [] 2 [] rfl rfl rfl rfl rfl rfl rfl rfl rfl rfl rfl (Nat.le_of_ble_eq_true rfl) hl.1 ⟨Nat.le_of_ble_eq_true rfl, Nat.le_of_ble_eq_true rfl⟩ ⟨Nat.zero_le _, Nat.zero_le _⟩ dX3_peek_32 (fun H locs hw => ?_)
    refine lv_bipush (pc := 35) (v := 32) hx hb dX3_peek_35 (by decide) ?_
    refine lv_iload_n (pc := 37) hx hb dX3_peek_37 rfl (lv_at hl 0 rfl) ?_
    refine lv_isub (pc := 38) hx hb dX3_peek_38 ?_
    refine lv_iushr (pc := 39) hx hb dX3_peek_39 rfl ?_
    refine lv_ior (pc := 40) hx hb dX3_peek_40 ?_
    exact x_iret (pc := 41) (v := ((r_4 <<< (x3_2 &&& 31) : Int32) ||| (UInt32.toInt32 (Int32.toUInt32 r_6 >>> (Int32.toUInt32 ((32 : Int32) - x3_2) &&& Int32.toUInt32 31))))) C (Option.some.inj h) rfl hw dX3_peek_41
  · have h := ift hc_3 h
    refine lv_aload_n (pc := 13) hx hb dX3_peek_13 rfl (lv_at hl 2 rfl) ?_
    refine lv_iload_n (pc := 14) hx hb dX3_peek_14 rfl (lv_at hl 1 rfl) ?_
    obtain ⟨r_8, hq_9, h⟩ := ob1_at h
    refine x_callV (pc := 15) (rest := []) (stk := [.int r_8]) (wX3_peek cB cI cZ a_this a_packed v_size v_pressed v_packed) C hw (ct_X3_cell l D cB cI cZ tw a_this a_packed v_size v_pressed v_packed x2_1 r_8 hq_9) cal_X3_cell tw_592 (q0 := 0) rfl rfl [0, 1] [] 2 [] rfl rfl rfl rfl rfl rfl rfl rfl rfl rfl rfl (Nat.le_of_ble_eq_true rfl) hl.1 ⟨Nat.le_of_ble_eq_true rfl, Nat.le_of_ble_eq_true rfl⟩ ⟨Nat.zero_le _, Nat.zero_le _⟩ dX3_peek_15 (fun H locs hw => ?_)
    refine lv_goto (pc := 18) (tgt := 41) hx hb dX3_peek_18 (by decide) ?_
    exact x_iret (pc := 41) (v := r_8) C (Option.some.inj h) rfl hw dX3_peek_41
def wX3_wordAt (cB cI cZ : ClassId) (a_this : Nat) (a_packed : Nat) (v_size : Int32) (v_pressed : Int32) (v_packed : Nat → Int32) : va_W := [oX3 a_this a_packed v_size v_pressed, (a_packed, .inl (cI, 11250, .inl v_packed))]
def fX3_wordAt (v_packed : Nat → Int32) (x1 : Int32) (x2 : Int32) : Option (Int32) := ob1 (fX3_peek v_packed (((x1 + (24 : Int32)) + (3 : Int32)) + ((17 : Int32) * x2))) fun r_1 => some (UInt32.toInt32 (Int32.toUInt32 r_1 >>> (Int32.toUInt32 18 &&& Int32.toUInt32 31)))
set_option maxHeartbeats 4000000 in
set_option maxRecDepth 100000 in
theorem ct_X3_wordAt (l : Launch) (D : va_G) (cB cI cZ : ClassId) (tw : Nat) (a_this : Nat) (a_packed : Nat) (v_size : Int32) (v_pressed : Int32) (v_packed : Nat → Int32) (x1 : Int32) (x2 : Int32) (res : Int32) (h : fX3_wordAt v_packed x1 x2 = some res) : Ctr l yX3_wordAt cX3_wordAt 3 (some .int) (rmK 2 44) D (tyL cB cI cZ) tw [.ref a_this, .int x1, .int x2] (wX3_wordAt cB cI cZ a_this a_packed v_size v_pressed v_packed) (fun res : Int32 => some (.int res)) (fun res : Int32 => (wX3_wordAt cB cI cZ a_this a_packed v_size v_pressed v_packed)) res := by
  refine ctr_of RX3 (by decide) rfl (Nat.le_of_ble_eq_true rfl) ?_
  intro p e s m below meth c A C hw ls hl
  have hx := C.1
  have hb := C.2.1
  have hl : lv_has ls 3 [(0, .ref a_this), (1, .int x1), (2, .int x2)] := hl
  unfold fX3_wordAt at h
  refine lv_aload_n (pc := 0) hx hb dX3_wordAt_0 rfl (lv_at hl 0 rfl) ?_
  refine lv_iload_n (pc := 1) hx hb dX3_wordAt_1 rfl (lv_at hl 1 rfl) ?_
  refine lv_bipush (pc := 2) (v := 24) hx hb dX3_wordAt_2 (by decide) ?_
  refine lv_iadd (pc := 4) hx hb dX3_wordAt_4 ?_
  refine lv_iconst (pc := 5) (v := 3) hx hb dX3_wordAt_5 (by decide) ?_
  refine lv_iadd (pc := 6) hx hb dX3_wordAt_6 ?_
  refine lv_bipush (pc := 7) (v := 17) hx hb dX3_wordAt_7 (by decide) ?_
  refine lv_iload_n (pc := 9) hx hb dX3_wordAt_9 rfl (lv_at hl 2 rfl) ?_
  refine lv_imul (pc := 10) hx hb dX3_wordAt_10 ?_
  refine lv_iadd (pc := 11) hx hb dX3_wordAt_11 ?_
  obtain ⟨r_1, hq_2, h⟩ := ob1_at h
  refine x_callV (pc := 12) (rest := []) (stk := [.int r_1]) (wX3_wordAt cB cI cZ a_this a_packed v_size v_pressed v_packed) C hw (ct_X3_peek l D cB cI cZ tw a_this a_packed v_size v_pressed v_packed (((x1 + (24 : Int32)) + (3 : Int32)) + ((17 : Int32) * x2)) r_1 hq_2) cal_X3_peek tw_608 (q0 := 0) rfl rfl [0, 1] [] 2 [] rfl rfl rfl rfl rfl rfl rfl rfl rfl rfl rfl (Nat.le_of_ble_eq_true rfl) hl.1 ⟨Nat.le_of_ble_eq_true rfl, Nat.le_of_ble_eq_true rfl⟩ ⟨Nat.zero_le _, Nat.zero_le _⟩ dX3_wordAt_12 (fun H locs hw => ?_)
  refine lv_bipush (pc := 15) (v := 18) hx hb dX3_wordAt_15 (by decide) ?_
  refine lv_iushr (pc := 17) hx hb dX3_wordAt_17 rfl ?_
  exact x_iret (pc := 18) (v := (UInt32.toInt32 (Int32.toUInt32 r_1 >>> (Int32.toUInt32 18 &&& Int32.toUInt32 31)))) C (Option.some.inj h) rfl hw dX3_wordAt_18
def wX3_merge (cB cI cZ : ClassId) (a_this : Nat) (a_packed : Nat) (v_size : Int32) (v_pressed : Int32) (v_packed : Nat → Int32) : va_W := [oX3 a_this a_packed v_size v_pressed, (a_packed, .inl (cI, 11250, .inl v_packed))]
def fX3_merge (v_packed : Nat → Int32) (x1 : Int32) (x2 : Int32) : Option ((Nat → Int32)) := if x1 < 0 then some v_packed else if (11250 : Int32) ≤ x1 then some v_packed else og (ixb x1 11250) (og (ixb x1 11250) (nm (upd v_packed (Int32.toNatClampNeg x1) ((v_packed (Int32.toNatClampNeg x1)) ||| x2)) fun v_packed_5 => some v_packed_5))
set_option maxHeartbeats 4000000 in
set_option maxRecDepth 100000 in
theorem ct_X3_merge (l : Launch) (D : va_G) (cB cI cZ : ClassId) (tw : Nat) (a_this : Nat) (a_packed : Nat) (v_size : Int32) (v_pressed : Int32) (v_packed : Nat → Int32) (x1 : Int32) (x2 : Int32) (res : (Nat → Int32)) (h : fX3_merge v_packed x1 x2 = some res) : Ctr l yX3_merge cX3_merge 3 none (rmK 0 0) D (tyL cB cI cZ) tw [.ref a_this, .int x1, .int x2] (wX3_merge cB cI cZ a_this a_packed v_size v_pressed v_packed) (fun _ : (Nat → Int32) => none) (fun res : (Nat → Int32) => (wX3_merge cB cI cZ a_this a_packed v_size v_pressed res)) res := by
  refine ctr_of RX3 (by decide) rfl (Nat.le_of_ble_eq_true rfl) ?_
  intro p e s m below meth c A C hw ls hl
  have hx := C.1
  have hb := C.2.1
  have hl : lv_has ls 3 [(0, .ref a_this), (1, .int x1), (2, .int x2)] := hl
  unfold fX3_merge at h
  refine lv_iload_n (pc := 0) hx hb dX3_merge_0 rfl (lv_at hl 1 rfl) ?_
  refine lv_if_lt (pc := 1) (tgt := 23) hx hb dX3_merge_1 (by decide) (fun hc_1 => ?_) (fun hc_1 => ?_)
  · have h := ift hc_1 h
    exact x_vret (pc := 23) (v := v_packed) C (Option.some.inj h) rfl hw dX3_merge_23
  · have h := iff' hc_1 h
    refine lv_iload_n (pc := 4) hx hb dX3_merge_4 rfl (lv_at hl 1 rfl) ?_
    refine lv_aload_n (pc := 5) hx hb dX3_merge_5 rfl (lv_at hl 0 rfl) ?_
    refine gf_X3_9 (pc := 6) C hw 0 rfl rfl dX3_merge_6 ?_
    refine x_ilen (pc := 9) 11250 C hw 1 1 rfl rfl (by decide) dX3_merge_9 ?_
    refine lv_icmp_ge (pc := 10) (tgt := 23) hx hb dX3_merge_10 (by decide) (fun hc_2 => ?_) (fun hc_2 => ?_)
    · have h := ift hc_2 h
      exact x_vret (pc := 23) (v := v_packed) C (Option.some.inj h) rfl hw dX3_merge_23
    · have h := iff' hc_2 h
      refine lv_aload_n (pc := 13) hx hb dX3_merge_13 rfl (lv_at hl 0 rfl) ?_
      refine gf_X3_9 (pc := 14) C hw 0 rfl rfl dX3_merge_14 ?_
      refine lv_iload_n (pc := 17) hx hb dX3_merge_17 rfl (lv_at hl 1 rfl) ?_
      refine lv_dup2_11 (pc := 18) hx hb dX3_merge_18 rfl rfl ?_
      obtain ⟨hi_3, h⟩ := og_at h
      refine x_iald (pc := 19) C hw 1 rfl hi_3 dX3_merge_19 ?_
      refine lv_iload_n (pc := 20) hx hb dX3_merge_20 rfl (lv_at hl 2 rfl) ?_
      refine lv_ior (pc := 21) hx hb dX3_merge_21 ?_
      obtain ⟨hi_4, h⟩ := og_at h
      obtain ⟨v_packed_5, ev_packed_5⟩ : ∃ y : Nat → Int32, y = upd v_packed (Int32.toNatClampNeg x1) ((v_packed (Int32.toNatClampNeg x1)) ||| x2) := ⟨_, rfl⟩
      have h := nm_at ev_packed_5 h
      refine x_iast (pc := 22) (wX3_merge cB cI cZ a_this a_packed v_size v_pressed v_packed_5) C hw 1 rfl hi_4 (by rw [ev_packed_5]; rfl) dX3_merge_22 (fun H locs hw => ?_)
      exact x_vret (pc := 23) (v := v_packed_5) C (Option.some.inj h) rfl hw dX3_merge_23
def wX3_append (cB cI cZ : ClassId) (a_this : Nat) (a_packed : Nat) (v_size : Int32) (v_pressed : Int32) (v_packed : Nat → Int32) : va_W := [oX3 a_this a_packed v_size v_pressed, (a_packed, .inl (cI, 11250, .inl v_packed))]
def fX3_append (v_size : Int32) (v_packed : Nat → Int32) (x1 : Int32) (x2 : Int32) : Option (Int32 × (Nat → Int32)) := nm ((x1 <<< (((32 : Int32) - x2) &&& 31) : Int32) : Int32) fun x3_1 => nm ((v_size &&& (31 : Int32)) : Int32) fun x4_2 => ob1 (fX3_merge v_packed (v_size >>> ((5 : Int32) &&& 31) : Int32) (UInt32.toInt32 (Int32.toUInt32 x3_1 >>> (Int32.toUInt32 x4_2 &&& Int32.toUInt32 31)))) fun v_packed_3 => jk (fun (v_packed_5 : Nat → Int32) => nm ((v_size + x2) : Int32) fun v_size_7 => some (v_size_7, v_packed_5)) fun j54_6 => if x4_2 ≤ 0 then j54_6 v_packed_3 else ob1 (fX3_merge v_packed_3 ((v_size >>> ((5 : Int32) &&& 31) : Int32) + (1 : Int32)) (x3_1 <<< (((32 : Int32) - x4_2) &&& 31) : Int32)) fun v_packed_9 => j54_6 v_packed_9
set_option maxHeartbeats 4000000 in
set_option maxRecDepth 100000 in
theorem ct_X3_append (l : Launch) (D : va_G) (cB cI cZ : ClassId) (tw : Nat) (a_this : Nat) (a_packed : Nat) (v_size : Int32) (v_pressed : Int32) (v_packed : Nat → Int32) (x1 : Int32) (x2 : Int32) (res : Int32 × (Nat → Int32)) (h : fX3_append v_size v_packed x1 x2 = some res) : Ctr l yX3_append cX3_append 5 none (rmK 1 22) D (tyL cB cI cZ) tw [.ref a_this, .int x1, .int x2] (wX3_append cB cI cZ a_this a_packed v_size v_pressed v_packed) (fun _ : Int32 × (Nat → Int32) => none) (fun res : Int32 × (Nat → Int32) => (wX3_append cB cI cZ a_this a_packed (res.1) v_pressed (res.2))) res := by
  refine ctr_of RX3 (by decide) rfl (Nat.le_of_ble_eq_true rfl) ?_
  intro p e s m below meth c A C hw ls hl
  have hx := C.1
  have hb := C.2.1
  have hl : lv_has ls 5 [(0, .ref a_this), (1, .int x1), (2, .int x2)] := hl
  unfold fX3_append at h
  refine lv_iload_n (pc := 0) hx hb dX3_append_0 rfl (lv_at hl 1 rfl) ?_
  refine lv_bipush (pc := 1) (v := 32) hx hb dX3_append_1 (by decide) ?_
  refine lv_iload_n (pc := 3) hx hb dX3_append_3 rfl (lv_at hl 2 rfl) ?_
  refine lv_isub (pc := 4) hx hb dX3_append_4 ?_
  refine lv_ishl (pc := 5) hx hb dX3_append_5 ?_
  refine lv_topi (pc := 6) (fun x3_1 ex3_1 => ?_)
  have h := nm_at ex3_1 h
  refine lv_istore_n (pc := 6) (lv' := [(3, .int x3_1), (0, .ref a_this), (1, .int x1), (2, .int x2)]) hx hb dX3_append_6 rfl hl (by decide) rfl (fun ls hl => ?_)
  refine lv_aload_n (pc := 7) hx hb dX3_append_7 rfl (lv_at hl 1 rfl) ?_
  refine gf_X3_21 (pc := 8) C hw 0 rfl rfl dX3_append_8 ?_
  refine lv_bipush (pc := 11) (v := 31) hx hb dX3_append_11 (by decide) ?_
  refine lv_iand (pc := 13) hx hb dX3_append_13 ?_
  refine lv_topi (pc := 14) (fun x4_2 ex4_2 => ?_)
  have h := nm_at ex4_2 h
  refine lv_istore (pc := 14) (lv' := [(4, .int x4_2), (3, .int x3_1), (0, .ref a_this), (1, .int x1), (2, .int x2)]) hx hb dX3_append_14 hl (by decide) rfl (fun ls hl => ?_)
  refine lv_aload_n (pc := 16) hx hb dX3_append_16 rfl (lv_at hl 2 rfl) ?_
  refine lv_aload_n (pc := 17) hx hb dX3_append_17 rfl (lv_at hl 2 rfl) ?_
  refine gf_X3_21 (pc := 18) C hw 0 rfl rfl dX3_append_18 ?_
  refine lv_iconst (pc := 21) (v := 5) hx hb dX3_append_21 (by decide) ?_
  refine lv_ishr (pc := 22) hx hb dX3_append_22 ?_
  refine lv_iload_n (pc := 23) hx hb dX3_append_23 rfl (lv_at hl 1 rfl) ?_
  refine lv_iload (pc := 24) hx hb dX3_append_24 (lv_at hl 0 rfl) ?_
  refine lv_iushr (pc := 26) hx hb dX3_append_26 rfl ?_
  obtain ⟨v_packed_3, hq_4, h⟩ := ob1_at h
  refine x_callV (pc := 27) (rest := []) (stk := []) (wX3_append cB cI cZ a_this a_packed v_size v_pressed v_packed_3) C hw (ct_X3_merge l D cB cI cZ tw a_this a_packed v_size v_pressed v_packed (v_size >>> ((5 : Int32) &&& 31) : Int32) (UInt32.toInt32 (Int32.toUInt32 x3_1 >>> (Int32.toUInt32 x4_2 &&& Int32.toUInt32 31))) v_packed_3 hq_4) cal_X3_merge tw_452 (q0 := 0) rfl rfl [0, 1] [] 2 [] rfl rfl rfl rfl rfl rfl rfl rfl rfl rfl rfl (Nat.le_of_ble_eq_true rfl) hl.1 ⟨Nat.le_of_ble_eq_true rfl, Nat.le_of_ble_eq_true rfl⟩ ⟨Nat.zero_le _, Nat.zero_le _⟩ dX3_append_27 (fun H locs hw => ?_)
  refine lv_iload (pc := 30) hx hb dX3_append_30 (lv_at hl 0 rfl) ?_
  obtain ⟨j54_6, ej54_6, h⟩ := jk_at h
  have J54_6 : ∀ (v_packed_5 : Nat → Int32) (ls : Array Slot) (H : Heap) (locs : List Loc), lv_has ls 5 [(0, .ref a_this), (2, .int x2)] → Wd D A s (wX3_append cB cI cZ a_this a_packed v_size v_pressed v_packed_5) H locs → j54_6 v_packed_5 = some res → W p l e (rmK 1 22) s m ([.ref a_this, .int x1, .int x2] : List Value).toArray below meth c H locs 0 0 (MQ below (QG D (tyL cB cI cZ) A (fun _ : Int32 × (Nat → Int32) => none) (fun res : Int32 × (Nat → Int32) => (wX3_append cB cI cZ a_this a_packed (res.1) v_pressed (res.2))) res) ([.ref a_this, .int x1, .int x2] : List Value).toArray s 0 0 A) (F0 m 54 ls []) := by
    intro v_packed_5 ls H locs hl hw h
    have h := k1_at ej54_6 h
    refine lv_aload_n (pc := 54) hx hb dX3_append_54 rfl (lv_at hl 0 rfl) ?_
    refine lv_dup (pc := 55) hx hb dX3_append_55 rfl ?_
    refine gf_X3_21 (pc := 56) C hw 0 rfl rfl dX3_append_56 ?_
    refine lv_iload_n (pc := 59) hx hb dX3_append_59 rfl (lv_at hl 1 rfl) ?_
    refine lv_iadd (pc := 60) hx hb dX3_append_60 ?_
    refine lv_topi (pc := 61) (fun v_size_7 ev_size_7 => ?_)
    have h := nm_at ev_size_7 h
    refine pf_X3_21 (pc := 61) (wX3_append cB cI cZ a_this a_packed v_size_7 v_pressed v_packed_5) C hw 0 rfl rfl rfl rfl (Nat.le_of_ble_eq_true rfl) dX3_append_61 (fun H locs hw => ?_)
    exact x_vret (pc := 64) (v := (v_size_7, v_packed_5)) C (Option.some.inj h) rfl hw dX3_append_64
  refine lv_if_le (pc := 32) (tgt := 54) hx hb dX3_append_32 (by decide) (fun hc_8 => ?_) (fun hc_8 => ?_)
  · have h := ift hc_8 h
    exact J54_6 v_packed_3 ls _ _ (lv_sub hl [2, 4] rfl) hw h
  · have h := iff' hc_8 h
    refine lv_aload_n (pc := 35) hx hb dX3_append_35 rfl (lv_at hl 2 rfl) ?_
    refine lv_aload_n (pc := 36) hx hb dX3_append_36 rfl (lv_at hl 2 rfl) ?_
    refine gf_X3_21 (pc := 37) C hw 0 rfl rfl dX3_append_37 ?_
    refine lv_iconst (pc := 40) (v := 5) hx hb dX3_append_40 (by decide) ?_
    refine lv_ishr (pc := 41) hx hb dX3_append_41 ?_
    refine lv_iconst (pc := 42) (v := 1) hx hb dX3_append_42 (by decide) ?_
    refine lv_iadd (pc := 43) hx hb dX3_append_43 ?_
    refine lv_iload_n (pc := 44) hx hb dX3_append_44 rfl (lv_at hl 1 rfl) ?_
    refine lv_bipush (pc := 45) (v := 32) hx hb dX3_append_45 (by decide) ?_
    refine lv_iload (pc := 47) hx hb dX3_append_47 (lv_at hl 0 rfl) ?_
    refine lv_isub (pc := 49) hx hb dX3_append_49 ?_
    refine lv_ishl (pc := 50) hx hb dX3_append_50 ?_
    obtain ⟨v_packed_9, hq_10, h⟩ := ob1_at h
    refine x_callV (pc := 51) (rest := []) (stk := []) (wX3_append cB cI cZ a_this a_packed v_size v_pressed v_packed_9) C hw (ct_X3_merge l D cB cI cZ tw a_this a_packed v_size v_pressed v_packed_3 ((v_size >>> ((5 : Int32) &&& 31) : Int32) + (1 : Int32)) (x3_1 <<< (((32 : Int32) - x4_2) &&& 31) : Int32) v_packed_9 hq_10) cal_X3_merge tw_452 (q0 := 0) rfl rfl [0, 1] [] 2 [] rfl rfl rfl rfl rfl rfl rfl rfl rfl rfl rfl (Nat.le_of_ble_eq_true rfl) hl.1 ⟨Nat.le_of_ble_eq_true rfl, Nat.le_of_ble_eq_true rfl⟩ ⟨Nat.zero_le _, Nat.zero_le _⟩ dX3_append_51 (fun H locs hw => ?_)
    exact J54_6 v_packed_9 ls _ _ (lv_sub hl [2, 4] rfl) hw h
def wX3_turn (cB cI cZ : ClassId) (a_this : Nat) (a_packed : Nat) (v_size : Int32) (v_pressed : Int32) (v_packed : Nat → Int32) : va_W := [oX3 a_this a_packed v_size v_pressed, (a_packed, .inl (cI, 11250, .inl v_packed))]
def fX3_turn (v_size : Int32) (v_packed : Nat → Int32) (x1 : Int32) : Option ((Nat → Int32)) := nt1 (fX3_has v_size x1) fun r_1 => if r_1 = 0 then some v_packed else if (11250 : Int32) ≤ (x1 >>> ((5 : Int32) &&& 31) : Int32) then some v_packed else og (ixb (x1 >>> ((5 : Int32) &&& 31) : Int32) 11250) (og (ixb (x1 >>> ((5 : Int32) &&& 31) : Int32) 11250) (nm (upd v_packed (Int32.toNatClampNeg (x1 >>> ((5 : Int32) &&& 31) : Int32)) ((v_packed (Int32.toNatClampNeg (x1 >>> ((5 : Int32) &&& 31) : Int32))) ^^^ ((1 : Int32) <<< (((31 : Int32) - (x1 &&& (31 : Int32))) &&& 31) : Int32))) fun v_packed_7 => some v_packed_7))
set_option maxHeartbeats 4000000 in
set_option maxRecDepth 100000 in
theorem ct_X3_turn (l : Launch) (D : va_G) (cB cI cZ : ClassId) (tw : Nat) (a_this : Nat) (a_packed : Nat) (v_size : Int32) (v_pressed : Int32) (v_packed : Nat → Int32) (x1 : Int32) (res : (Nat → Int32)) (h : fX3_turn v_size v_packed x1 = some res) : Ctr l yX3_turn cX3_turn 2 none (rmK 1 21) D (tyL cB cI cZ) tw [.ref a_this, .int x1] (wX3_turn cB cI cZ a_this a_packed v_size v_pressed v_packed) (fun _ : (Nat → Int32) => none) (fun res : (Nat → Int32) => (wX3_turn cB cI cZ a_this a_packed v_size v_pressed res)) res := by
  refine ctr_of RX3 (by decide) rfl (Nat.le_of_ble_eq_true rfl) ?_
  intro p e s m below meth c A C hw ls hl
  have hx := C.1
  have hb := C.2.1
  have hl : lv_has ls 2 [(0, .ref a_this), (1, .int x1)] := hl
  unfold fX3_turn at h
  refine lv_aload_n (pc := 0) hx hb dX3_turn_0 rfl (lv_at hl 0 rfl) ?_
  refine lv_iload_n (pc := 1) hx hb dX3_turn_1 rfl (lv_at hl 1 rfl) ?_
  obtain ⟨r_1, hq_2, h⟩ := nt1_at h
  refine x_callV (pc := 2) (rest := []) (stk := [.int r_1]) (wX3_turn cB cI cZ a_this a_packed v_size v_pressed v_packed) C hw (ct_X3_has l D cB cI cZ tw a_this a_packed v_size v_pressed x1 r_1 hq_2.symm) cal_X3_has tw_670 (q0 := 0) rfl rfl [0] [1] 2 [(a_packed, .inl (cI, 11250, .inl v_packed))] rfl rfl rfl rfl rfl rfl rfl rfl rfl rfl rfl (Nat.le_of_ble_eq_true rfl) hl.1 ⟨Nat.le_of_ble_eq_true rfl, Nat.le_of_ble_eq_true rfl⟩ ⟨Nat.zero_le _, Nat.zero_le _⟩ dX3_turn_2 (fun H locs hw => ?_)
  refine lv_if_eq (pc := 5) (tgt := 39) hx hb dX3_turn_5 (by decide) (fun hc_3 => ?_) (fun hc_3 => ?_)
  · have h := ift hc_3 h
    exact x_vret (pc := 39) (v := v_packed) C (Option.some.inj h) rfl hw dX3_turn_39
  · have h := iff' hc_3 h
    refine lv_iload_n (pc := 8) hx hb dX3_turn_8 rfl (lv_at hl 1 rfl) ?_
    refine lv_iconst (pc := 9) (v := 5) hx hb dX3_turn_9 (by decide) ?_
    refine lv_ishr (pc := 10) hx hb dX3_turn_10 ?_
    refine lv_aload_n (pc := 11) hx hb dX3_turn_11 rfl (lv_at hl 0 rfl) ?_
    refine gf_X3_9 (pc := 12) C hw 0 rfl rfl dX3_turn_12 ?_
    refine x_ilen (pc := 15) 11250 C hw 1 1 rfl rfl (by decide) dX3_turn_15 ?_
    refine lv_icmp_ge (pc := 16) (tgt := 39) hx hb dX3_turn_16 (by decide) (fun hc_4 => ?_) (fun hc_4 => ?_)
    · have h := ift hc_4 h
      exact x_vret (pc := 39) (v := v_packed) C (Option.some.inj h) rfl hw dX3_turn_39
    · have h := iff' hc_4 h
      refine lv_aload_n (pc := 19) hx hb dX3_turn_19 rfl (lv_at hl 0 rfl) ?_
      refine gf_X3_9 (pc := 20) C hw 0 rfl rfl dX3_turn_20 ?_
      refine lv_iload_n (pc := 23) hx hb dX3_turn_23 rfl (lv_at hl 1 rfl) ?_
      refine lv_iconst (pc := 24) (v := 5) hx hb dX3_turn_24 (by decide) ?_
      refine lv_ishr (pc := 25) hx hb dX3_turn_25 ?_
      refine lv_dup2_11 (pc := 26) hx hb dX3_turn_26 rfl rfl ?_
      obtain ⟨hi_5, h⟩ := og_at h
      refine x_iald (pc := 27) C hw 1 rfl hi_5 dX3_turn_27 ?_
      refine lv_iconst (pc := 28) (v := 1) hx hb dX3_turn_28 (by decide) ?_
      refine lv_bipush (pc := 29) (v := 31) hx hb dX3_turn_29 (by decide) ?_
      refine lv_iload_n (pc := 31) hx hb dX3_turn_31 rfl (lv_at hl 1 rfl) ?_
      refine lv_bipush (pc := 32) (v := 31) hx hb dX3_turn_32 (by decide) ?_
      refine lv_iand (pc := 34) hx hb dX3_turn_34 ?_
      refine lv_isub (pc := 35) hx hb dX3_turn_35 ?_
      refine lv_ishl (pc := 36) hx hb dX3_turn_36 ?_
      refine lv_ixor (pc := 37) hx hb dX3_turn_37 ?_
      obtain ⟨hi_6, h⟩ := og_at h
      obtain ⟨v_packed_7, ev_packed_7⟩ : ∃ y : Nat → Int32, y = upd v_packed (Int32.toNatClampNeg (x1 >>> ((5 : Int32) &&& 31) : Int32)) ((v_packed (Int32.toNatClampNeg (x1 >>> ((5 : Int32) &&& 31) : Int32))) ^^^ ((1 : Int32) <<< (((31 : Int32) - (x1 &&& (31 : Int32))) &&& 31) : Int32)) := ⟨_, rfl⟩
      have h := nm_at ev_packed_7 h
      refine x_iast (pc := 38) (wX3_turn cB cI cZ a_this a_packed v_size v_pressed v_packed_7) C hw 1 rfl hi_6 (by rw [ev_packed_7]; rfl) dX3_turn_38 (fun H locs hw => ?_)
      exact x_vret (pc := 39) (v := v_packed_7) C (Option.some.inj h) rfl hw dX3_turn_39
def wX3_behind (cB cI cZ : ClassId) : va_W := []
def fX3_behind (x0 : Int32) (x1 : Int32) : Int32 := nm ((x1 - ((32 : Int32) * x0)) : Int32) fun x2_1 => if 0 < x2_1 then if x2_1 < (32 : Int32) then (UInt32.toInt32 (Int32.toUInt32 (-1) >>> (Int32.toUInt32 x2_1 &&& Int32.toUInt32 31))) else 0 else (-1)
set_option maxHeartbeats 4000000 in
set_option maxRecDepth 100000 in
theorem ct_X3_behind (l : Launch) (D : va_G) (cB cI cZ : ClassId) (tw : Nat) (x0 : Int32) (x1 : Int32) (res : Int32) (h : fX3_behind x0 x1 = res) : Ctr l yX3_behind cX3_behind 3 (some .int) (rmK 0 0) D (tyL cB cI cZ) tw [.int x0, .int x1] (wX3_behind cB cI cZ) (fun res : Int32 => some (.int res)) (fun res : Int32 => (wX3_behind cB cI cZ)) res := by
  refine ctr_of RX3 (by decide) rfl (Nat.le_of_ble_eq_true rfl) ?_
  intro p e s m below meth c A C hw ls hl
  have hx := C.1
  have hb := C.2.1
  have hl : lv_has ls 3 [(0, .int x0), (1, .int x1)] := hl
  unfold fX3_behind at h
  refine lv_iload_n (pc := 0) hx hb dX3_behind_0 rfl (lv_at hl 1 rfl) ?_
  refine lv_bipush (pc := 1) (v := 32) hx hb dX3_behind_1 (by decide) ?_
  refine lv_iload_n (pc := 3) hx hb dX3_behind_3 rfl (lv_at hl 0 rfl) ?_
  refine lv_imul (pc := 4) hx hb dX3_behind_4 ?_
  refine lv_isub (pc := 5) hx hb dX3_behind_5 ?_
  refine lv_topi (pc := 6) (fun x2_1 ex2_1 => ?_)
  have h := nm_at ex2_1 h
  refine lv_istore_n (pc := 6) (lv' := [(2, .int x2_1), (0, .int x0), (1, .int x1)]) hx hb dX3_behind_6 rfl hl (by decide) rfl (fun ls hl => ?_)
  refine lv_iload_n (pc := 7) hx hb dX3_behind_7 rfl (lv_at hl 0 rfl) ?_
  refine lv_if_gt (pc := 8) (tgt := 15) hx hb dX3_behind_8 (by decide) (fun hc_2 => ?_) (fun hc_2 => ?_)
  · have h := ift hc_2 h
    refine lv_iload_n (pc := 15) hx hb dX3_behind_15 rfl (lv_at hl 0 rfl) ?_
    refine lv_bipush (pc := 16) (v := 32) hx hb dX3_behind_16 (by decide) ?_
    refine lv_icmp_lt (pc := 18) (tgt := 25) hx hb dX3_behind_18 (by decide) (fun hc_3 => ?_) (fun hc_3 => ?_)
    · have h := ift hc_3 h
      refine lv_iconst (pc := 25) (v := (-1)) hx hb dX3_behind_25 (by decide) ?_
      refine lv_iload_n (pc := 26) hx hb dX3_behind_26 rfl (lv_at hl 0 rfl) ?_
      refine lv_iushr (pc := 27) hx hb dX3_behind_27 rfl ?_
      exact x_iret (pc := 28) (v := (UInt32.toInt32 (Int32.toUInt32 (-1) >>> (Int32.toUInt32 x2_1 &&& Int32.toUInt32 31)))) C h rfl hw dX3_behind_28
    · have h := iff' hc_3 h
      refine lv_iconst (pc := 21) (v := 0) hx hb dX3_behind_21 (by decide) ?_
      refine lv_goto (pc := 22) (tgt := 28) hx hb dX3_behind_22 (by decide) ?_
      exact x_iret (pc := 28) (v := 0) C h rfl hw dX3_behind_28
  · have h := iff' hc_2 h
    refine lv_iconst (pc := 11) (v := (-1)) hx hb dX3_behind_11 (by decide) ?_
    refine lv_goto (pc := 12) (tgt := 28) hx hb dX3_behind_12 (by decide) ?_
    exact x_iret (pc := 28) (v := (-1)) C h rfl hw dX3_behind_28
def wX3_blank (cB cI cZ : ClassId) (a_this : Nat) (a_packed : Nat) (v_size : Int32) (v_pressed : Int32) (v_packed : Nat → Int32) : va_W := [oX3 a_this a_packed v_size v_pressed, (a_packed, .inl (cI, 11250, .inl v_packed))]
def fX3_blank_L8 (x2 : Int32) (x1 : Int32) : Nat → Int32 → (Nat → Int32) → Option ((Nat → Int32))
  | 0, _, _ => none
  | F8_4 + 1, x3_2, v_packed_3 => if (11250 : Int32) ≤ x3_2 then some v_packed_3 else if x2 ≤ ((32 : Int32) * x3_2) then some v_packed_3 else og (ixb x3_2 11250) (nt1 (fX3_behind x3_2 x1) fun r_8 => nt1 (fX3_behind x3_2 x2) fun r_10 => og (ixb x3_2 11250) (nm (upd v_packed_3 (Int32.toNatClampNeg x3_2) ((v_packed_3 (Int32.toNatClampNeg x3_2)) &&& ((r_8 ^^^ (-1 : Int32)) ||| r_10))) fun v_packed_13 => nm (x3_2 + 1 : Int32) fun x3_14 => fX3_blank_L8 x2 x1 F8_4 x3_14 v_packed_13))
def fX3_blank (v_packed : Nat → Int32) (x1 : Int32) (x2 : Int32) : Option ((Nat → Int32)) := nm (((if x1 < (0 : Int32) then (0 : Int32) else x1 : Int32) >>> ((5 : Int32) &&& 31) : Int32) : Int32) fun x3_1 => fX3_blank_L8 x2 x1 FU x3_1 v_packed
set_option maxHeartbeats 4000000 in
set_option maxRecDepth 100000 in
theorem ct_X3_blank (l : Launch) (D : va_G) (cB cI cZ : ClassId) (tw : Nat) (a_this : Nat) (a_packed : Nat) (v_size : Int32) (v_pressed : Int32) (v_packed : Nat → Int32) (x1 : Int32) (x2 : Int32) (res : (Nat → Int32)) (h : fX3_blank v_packed x1 x2 = some res) : Ctr l yX3_blank cX3_blank 4 none (rmK 1 22) D (tyL cB cI cZ) tw [.ref a_this, .int x1, .int x2] (wX3_blank cB cI cZ a_this a_packed v_size v_pressed v_packed) (fun _ : (Nat → Int32) => none) (fun res : (Nat → Int32) => (wX3_blank cB cI cZ a_this a_packed v_size v_pressed res)) res := by
  refine ctr_of RX3 (by decide) rfl (Nat.le_of_ble_eq_true rfl) ?_
  intro p e s m below meth c A C hw ls hl
  have hx := C.1
  have hb := C.2.1
  have hl : lv_has ls 4 [(0, .ref a_this), (1, .int x1), (2, .int x2)] := hl
  unfold fX3_blank at h
  refine lv_iload_n (pc := 0) hx hb dX3_blank_0 rfl (lv_at hl 1 rfl) ?_
  refine lv_iconst (pc := 1) (v := 0) hx hb dX3_blank_1 (by decide) ?_
  refine va_mmax (pc := 2) (own := RX3) hx hb (C.2.2.1.trans hl.1.symm) C.2.2.2.1 (C.2.2.2.2.1 _ tw_646) (C.2.2.2.2.1 _ tw_647) (C.2.2.2.2.1 _ tw_14) (C.2.2.2.2.1 _ tw_648) (Nat.le_of_ble_eq_true rfl) (Nat.le_of_ble_eq_true rfl) (Nat.zero_le _) (Nat.zero_le _) dX3_blank_2 ?_
  refine lv_iconst (pc := 5) (v := 5) hx hb dX3_blank_5 (by decide) ?_
  refine lv_ishr (pc := 6) hx hb dX3_blank_6 ?_
  refine lv_topi (pc := 7) (fun x3_1 ex3_1 => ?_)
  have h := nm_at ex3_1 h
  refine lv_istore_n (pc := 7) (lv' := [(3, .int x3_1), (0, .ref a_this), (1, .int x1), (2, .int x2)]) hx hb dX3_blank_7 rfl hl (by decide) rfl (fun ls hl => ?_)
  have Lih8_4 : ∀ (F : Nat) (x3_2 : Int32) (v_packed_3 : Nat → Int32) (ls : Array Slot) (H : Heap) (locs : List Loc), lv_has ls 4 [(3, .int x3_2), (0, .ref a_this), (1, .int x1), (2, .int x2)] → Wd D A s (wX3_blank cB cI cZ a_this a_packed v_size v_pressed v_packed_3) H locs → fX3_blank_L8 x2 x1 F x3_2 v_packed_3 = some res → W p l e (rmK 1 22) s m ([.ref a_this, .int x1, .int x2] : List Value).toArray below meth c H locs 0 0 (MQ below (QG D (tyL cB cI cZ) A (fun _ : (Nat → Int32) => none) (fun res : (Nat → Int32) => (wX3_blank cB cI cZ a_this a_packed v_size v_pressed res)) res) ([.ref a_this, .int x1, .int x2] : List Value).toArray s 0 0 A) (F0 m 8 ls []) := by
    intro F
    induction F with
    | zero => intro x3_2 v_packed_3 ls H locs hl hw h; rw [fX3_blank_L8.eq_1] at h; cases h
    | succ F8_4 ih8_4 =>
      intro x3_2 v_packed_3 ls H locs hl hw h
      rw [fX3_blank_L8.eq_2] at h
      refine lv_iload_n (pc := 8) hx hb dX3_blank_8 rfl (lv_at hl 0 rfl) ?_
      refine lv_aload_n (pc := 9) hx hb dX3_blank_9 rfl (lv_at hl 1 rfl) ?_
      refine gf_X3_9 (pc := 10) C hw 0 rfl rfl dX3_blank_10 ?_
      refine x_ilen (pc := 13) 11250 C hw 1 1 rfl rfl (by decide) dX3_blank_13 ?_
      refine lv_icmp_ge (pc := 14) (tgt := 53) hx hb dX3_blank_14 (by decide) (fun hc_5 => ?_) (fun hc_5 => ?_)
      · have h := ift hc_5 h
        exact x_vret (pc := 53) (v := v_packed_3) C (Option.some.inj h) rfl hw dX3_blank_53
      · have h := iff' hc_5 h
        refine lv_bipush (pc := 17) (v := 32) hx hb dX3_blank_17 (by decide) ?_
        refine lv_iload_n (pc := 19) hx hb dX3_blank_19 rfl (lv_at hl 0 rfl) ?_
        refine lv_imul (pc := 20) hx hb dX3_blank_20 ?_
        refine lv_iload_n (pc := 21) hx hb dX3_blank_21 rfl (lv_at hl 3 rfl) ?_
        refine lv_icmp_ge (pc := 22) (tgt := 53) hx hb dX3_blank_22 (by decide) (fun hc_6 => ?_) (fun hc_6 => ?_)
        · have h := ift hc_6 h
          exact x_vret (pc := 53) (v := v_packed_3) C (Option.some.inj h) rfl hw dX3_blank_53
        · have h := iff' hc_6 h
          refine lv_aload_n (pc := 25) hx hb dX3_blank_25 rfl (lv_at hl 1 rfl) ?_
          refine gf_X3_9 (pc := 26) C hw 0 rfl rfl dX3_blank_26 ?_
          refine lv_iload_n (pc := 29) hx hb dX3_blank_29 rfl (lv_at hl 0 rfl) ?_
          refine lv_dup2_11 (pc := 30) hx hb dX3_blank_30 rfl rfl ?_
          obtain ⟨hi_7, h⟩ := og_at h
          refine x_iald (pc := 31) C hw 1 rfl hi_7 dX3_blank_31 ?_
          refine lv_iload_n (pc := 32) hx hb dX3_blank_32 rfl (lv_at hl 0 rfl) ?_
          refine lv_iload_n (pc := 33) hx hb dX3_blank_33 rfl (lv_at hl 2 rfl) ?_
          obtain ⟨r_8, hq_9, h⟩ := nt1_at h
          refine x_callS (pc := 34) (rest := [.int (v_packed_3 (Int32.toNatClampNeg x3_2)), .int x3_2, .ref a_packed]) (stk := [.int r_8, .int (v_packed_3 (Int32.toNatClampNeg x3_2)), .int x3_2, .ref a_packed]) (wX3_blank cB cI cZ a_this a_packed v_size v_pressed v_packed_3) C hw (ct_X3_behind l D cB cI cZ tw x3_2 x1 r_8 hq_9.symm) cal_X3_behind tw_685 [] [0, 1] 2 [oX3 a_this a_packed v_size v_pressed, (a_packed, .inl (cI, 11250, .inl v_packed_3))] rfl rfl rfl rfl rfl rfl rfl rfl rfl rfl rfl (Nat.le_of_ble_eq_true rfl) hl.1 ⟨Nat.le_of_ble_eq_true rfl, Nat.le_of_ble_eq_true rfl⟩ ⟨Nat.zero_le _, Nat.zero_le _⟩ dX3_blank_34 (fun H locs hw => ?_)
          refine lv_iconst (pc := 37) (v := (-1)) hx hb dX3_blank_37 (by decide) ?_
          refine lv_ixor (pc := 38) hx hb dX3_blank_38 ?_
          refine lv_iload_n (pc := 39) hx hb dX3_blank_39 rfl (lv_at hl 0 rfl) ?_
          refine lv_iload_n (pc := 40) hx hb dX3_blank_40 rfl (lv_at hl 3 rfl) ?_
          obtain ⟨r_10, hq_11, h⟩ := nt1_at h
          refine x_callS (pc := 41) (rest := [.int (r_8 ^^^ (-1 : Int32)), .int (v_packed_3 (Int32.toNatClampNeg x3_2)), .int x3_2, .ref a_packed]) (stk := [.int r_10, .int (r_8 ^^^ (-1 : Int32)), .int (v_packed_3 (Int32.toNatClampNeg x3_2)), .int x3_2, .ref a_packed]) (wX3_blank cB cI cZ a_this a_packed v_size v_pressed v_packed_3) C hw (ct_X3_behind l D cB cI cZ tw x3_2 x2 r_10 hq_11.symm) cal_X3_behind tw_685 [] [0, 1] 2 [oX3 a_this a_packed v_size v_pressed, (a_packed, .inl (cI, 11250, .inl v_packed_3))] rfl rfl rfl rfl rfl rfl rfl rfl rfl rfl rfl (Nat.le_of_ble_eq_true rfl) hl.1 ⟨Nat.le_of_ble_eq_true rfl, Nat.le_of_ble_eq_true rfl⟩ ⟨Nat.zero_le _, Nat.zero_le _⟩ dX3_blank_41 (fun H locs hw => ?_)
          refine lv_ior (pc := 44) hx hb dX3_blank_44 ?_
          refine lv_iand (pc := 45) hx hb dX3_blank_45 ?_
          obtain ⟨hi_12, h⟩ := og_at h
          obtain ⟨v_packed_13, ev_packed_13⟩ : ∃ y : Nat → Int32, y = upd v_packed_3 (Int32.toNatClampNeg x3_2) ((v_packed_3 (Int32.toNatClampNeg x3_2)) &&& ((r_8 ^^^ (-1 : Int32)) ||| r_10)) := ⟨_, rfl⟩
          have h := nm_at ev_packed_13 h
          refine x_iast (pc := 46) (wX3_blank cB cI cZ a_this a_packed v_size v_pressed v_packed_13) C hw 1 rfl hi_12 (by rw [ev_packed_13]; rfl) dX3_blank_46 (fun H locs hw => ?_)
          obtain ⟨x3_14, ex3_14⟩ : ∃ y : Int32, y = x3_2 + 1 := ⟨_, rfl⟩
          have h := nm_at ex3_14 h
          refine lv_iinc (pc := 47) (v := x3_14) (lv' := [(3, .int x3_14), (0, .ref a_this), (1, .int x1), (2, .int x2)]) hx hb dX3_blank_47 hl (k := 0) rfl (by rw [ex3_14]; rfl) (by decide) rfl (fun ls hl => ?_)
          refine lv_goto (pc := 50) (tgt := 8) hx hb dX3_blank_50 (by decide) ?_
          exact ih8_4 x3_14 v_packed_13 ls _ _ (lv_sub hl [0, 1, 2, 3] rfl) hw h
  exact Lih8_4 FU x3_1 v_packed ls _ _ (lv_sub hl [0, 1, 2, 3] rfl) hw h
def wX3_insertZeros (cB cI cZ : ClassId) (a_this : Nat) (a_packed : Nat) (v_size : Int32) (v_pressed : Int32) (v_packed : Nat → Int32) : va_W := [oX3 a_this a_packed v_size v_pressed, (a_packed, .inl (cI, 11250, .inl v_packed))]
def fX3_insertZeros_L21 (j77_3 : (Nat → Int32) → Option (Int32 × (Nat → Int32))) (x1 : Int32) (x2 : Int32) : Nat → Int32 → (Nat → Int32) → Option (Int32 × (Nat → Int32))
  | 0, _, _ => none
  | F21_7 + 1, x3_5, v_packed_6 => if x3_5 < 0 then j77_3 v_packed_6 else if x3_5 < (x1 >>> ((5 : Int32) &&& 31) : Int32) then j77_3 v_packed_6 else og (ixb x3_5 11250) (nt1 (fX3_behind x3_5 x1) fun r_11 => ob1 (fX3_peek v_packed_6 (((32 : Int32) * x3_5) - x2)) fun r_13 => nt1 (fX3_behind x3_5 (x1 + x2)) fun r_15 => og (ixb x3_5 11250) (nm (upd v_packed_6 (Int32.toNatClampNeg x3_5) (((v_packed_6 (Int32.toNatClampNeg x3_5)) &&& (r_11 ^^^ (-1 : Int32))) ||| (r_13 &&& r_15))) fun v_packed_18 => nm (x3_5 + (-1) : Int32) fun x3_19 => fX3_insertZeros_L21 j77_3 x1 x2 F21_7 x3_19 v_packed_18))
def fX3_insertZeros (v_size : Int32) (v_packed : Nat → Int32) (x1 : Int32) (x2 : Int32) : Option (Int32 × (Nat → Int32)) := nm ((if ((11250 : Int32) - (1 : Int32)) < (((v_size + x2) - (1 : Int32)) >>> ((5 : Int32) &&& 31) : Int32) then ((11250 : Int32) - (1 : Int32)) else (((v_size + x2) - (1 : Int32)) >>> ((5 : Int32) &&& 31) : Int32) : Int32) : Int32) fun x3_1 => jk (fun (v_packed_2 : Nat → Int32) => nm ((v_size + x2) : Int32) fun v_size_4 => some (v_size_4, v_packed_2)) fun j77_3 => fX3_insertZeros_L21 j77_3 x1 x2 FU x3_1 v_packed
set_option maxHeartbeats 4000000 in
set_option maxRecDepth 100000 in
theorem ct_X3_insertZeros (l : Launch) (D : va_G) (cB cI cZ : ClassId) (tw : Nat) (a_this : Nat) (a_packed : Nat) (v_size : Int32) (v_pressed : Int32) (v_packed : Nat → Int32) (x1 : Int32) (x2 : Int32) (res : Int32 × (Nat → Int32)) (h : fX3_insertZeros v_size v_packed x1 x2 = some res) : Ctr l yX3_insertZeros cX3_insertZeros 4 none (rmK 2 44) D (tyL cB cI cZ) tw [.ref a_this, .int x1, .int x2] (wX3_insertZeros cB cI cZ a_this a_packed v_size v_pressed v_packed) (fun _ : Int32 × (Nat → Int32) => none) (fun res : Int32 × (Nat → Int32) => (wX3_insertZeros cB cI cZ a_this a_packed (res.1) v_pressed (res.2))) res := by
  refine ctr_of RX3 (by decide) rfl (Nat.le_of_ble_eq_true rfl) ?_
  intro p e s m below meth c A C hw ls hl
  have hx := C.1
  have hb := C.2.1
  have hl : lv_has ls 4 [(0, .ref a_this), (1, .int x1), (2, .int x2)] := hl
  unfold fX3_insertZeros at h
  refine lv_aload_n (pc := 0) hx hb dX3_insertZeros_0 rfl (lv_at hl 0 rfl) ?_
  refine gf_X3_21 (pc := 1) C hw 0 rfl rfl dX3_insertZeros_1 ?_
  refine lv_iload_n (pc := 4) hx hb dX3_insertZeros_4 rfl (lv_at hl 2 rfl) ?_
  refine lv_iadd (pc := 5) hx hb dX3_insertZeros_5 ?_
  refine lv_iconst (pc := 6) (v := 1) hx hb dX3_insertZeros_6 (by decide) ?_
  refine lv_isub (pc := 7) hx hb dX3_insertZeros_7 ?_
  refine lv_iconst (pc := 8) (v := 5) hx hb dX3_insertZeros_8 (by decide) ?_
  refine lv_ishr (pc := 9) hx hb dX3_insertZeros_9 ?_
  refine lv_aload_n (pc := 10) hx hb dX3_insertZeros_10 rfl (lv_at hl 0 rfl) ?_
  refine gf_X3_9 (pc := 11) C hw 0 rfl rfl dX3_insertZeros_11 ?_
  refine x_ilen (pc := 14) 11250 C hw 1 1 rfl rfl (by decide) dX3_insertZeros_14 ?_
  refine lv_iconst (pc := 15) (v := 1) hx hb dX3_insertZeros_15 (by decide) ?_
  refine lv_isub (pc := 16) hx hb dX3_insertZeros_16 ?_
  refine va_mmin (pc := 17) (own := RX3) hx hb (C.2.2.1.trans hl.1.symm) C.2.2.2.1 (C.2.2.2.2.1 _ tw_622) (C.2.2.2.2.1 _ tw_623) (C.2.2.2.2.1 _ tw_14) (C.2.2.2.2.1 _ tw_624) (Nat.le_of_ble_eq_true rfl) (Nat.le_of_ble_eq_true rfl) (Nat.zero_le _) (Nat.zero_le _) dX3_insertZeros_17 ?_
  refine lv_topi (pc := 20) (fun x3_1 ex3_1 => ?_)
  have h := nm_at ex3_1 h
  refine lv_istore_n (pc := 20) (lv' := [(3, .int x3_1), (0, .ref a_this), (1, .int x1), (2, .int x2)]) hx hb dX3_insertZeros_20 rfl hl (by decide) rfl (fun ls hl => ?_)
  obtain ⟨j77_3, ej77_3, h⟩ := jk_at h
  have J77_3 : ∀ (v_packed_2 : Nat → Int32) (ls : Array Slot) (H : Heap) (locs : List Loc), lv_has ls 4 [(0, .ref a_this), (2, .int x2)] → Wd D A s (wX3_insertZeros cB cI cZ a_this a_packed v_size v_pressed v_packed_2) H locs → j77_3 v_packed_2 = some res → W p l e (rmK 2 44) s m ([.ref a_this, .int x1, .int x2] : List Value).toArray below meth c H locs 0 0 (MQ below (QG D (tyL cB cI cZ) A (fun _ : Int32 × (Nat → Int32) => none) (fun res : Int32 × (Nat → Int32) => (wX3_insertZeros cB cI cZ a_this a_packed (res.1) v_pressed (res.2))) res) ([.ref a_this, .int x1, .int x2] : List Value).toArray s 0 0 A) (F0 m 77 ls []) := by
    intro v_packed_2 ls H locs hl hw h
    have h := k1_at ej77_3 h
    refine lv_aload_n (pc := 77) hx hb dX3_insertZeros_77 rfl (lv_at hl 0 rfl) ?_
    refine lv_dup (pc := 78) hx hb dX3_insertZeros_78 rfl ?_
    refine gf_X3_21 (pc := 79) C hw 0 rfl rfl dX3_insertZeros_79 ?_
    refine lv_iload_n (pc := 82) hx hb dX3_insertZeros_82 rfl (lv_at hl 1 rfl) ?_
    refine lv_iadd (pc := 83) hx hb dX3_insertZeros_83 ?_
    refine lv_topi (pc := 84) (fun v_size_4 ev_size_4 => ?_)
    have h := nm_at ev_size_4 h
    refine pf_X3_21 (pc := 84) (wX3_insertZeros cB cI cZ a_this a_packed v_size_4 v_pressed v_packed_2) C hw 0 rfl rfl rfl rfl (Nat.le_of_ble_eq_true rfl) dX3_insertZeros_84 (fun H locs hw => ?_)
    exact x_vret (pc := 87) (v := (v_size_4, v_packed_2)) C (Option.some.inj h) rfl hw dX3_insertZeros_87
  have Lih21_7 : ∀ (F : Nat) (x3_5 : Int32) (v_packed_6 : Nat → Int32) (ls : Array Slot) (H : Heap) (locs : List Loc), lv_has ls 4 [(3, .int x3_5), (0, .ref a_this), (1, .int x1), (2, .int x2)] → Wd D A s (wX3_insertZeros cB cI cZ a_this a_packed v_size v_pressed v_packed_6) H locs → fX3_insertZeros_L21 j77_3 x1 x2 F x3_5 v_packed_6 = some res → W p l e (rmK 2 44) s m ([.ref a_this, .int x1, .int x2] : List Value).toArray below meth c H locs 0 0 (MQ below (QG D (tyL cB cI cZ) A (fun _ : Int32 × (Nat → Int32) => none) (fun res : Int32 × (Nat → Int32) => (wX3_insertZeros cB cI cZ a_this a_packed (res.1) v_pressed (res.2))) res) ([.ref a_this, .int x1, .int x2] : List Value).toArray s 0 0 A) (F0 m 21 ls []) := by
    intro F
    induction F with
    | zero => intro x3_5 v_packed_6 ls H locs hl hw h; rw [fX3_insertZeros_L21.eq_1] at h; cases h
    | succ F21_7 ih21_7 =>
      intro x3_5 v_packed_6 ls H locs hl hw h
      rw [fX3_insertZeros_L21.eq_2] at h
      refine lv_iload_n (pc := 21) hx hb dX3_insertZeros_21 rfl (lv_at hl 0 rfl) ?_
      refine lv_if_lt (pc := 22) (tgt := 77) hx hb dX3_insertZeros_22 (by decide) (fun hc_8 => ?_) (fun hc_8 => ?_)
      · have h := ift hc_8 h
        exact J77_3 v_packed_6 ls _ _ (lv_sub hl [1, 3] rfl) hw h
      · have h := iff' hc_8 h
        refine lv_iload_n (pc := 25) hx hb dX3_insertZeros_25 rfl (lv_at hl 0 rfl) ?_
        refine lv_iload_n (pc := 26) hx hb dX3_insertZeros_26 rfl (lv_at hl 2 rfl) ?_
        refine lv_iconst (pc := 27) (v := 5) hx hb dX3_insertZeros_27 (by decide) ?_
        refine lv_ishr (pc := 28) hx hb dX3_insertZeros_28 ?_
        refine lv_icmp_lt (pc := 29) (tgt := 77) hx hb dX3_insertZeros_29 (by decide) (fun hc_9 => ?_) (fun hc_9 => ?_)
        · have h := ift hc_9 h
          exact J77_3 v_packed_6 ls _ _ (lv_sub hl [1, 3] rfl) hw h
        · have h := iff' hc_9 h
          refine lv_aload_n (pc := 32) hx hb dX3_insertZeros_32 rfl (lv_at hl 1 rfl) ?_
          refine gf_X3_9 (pc := 33) C hw 0 rfl rfl dX3_insertZeros_33 ?_
          refine lv_iload_n (pc := 36) hx hb dX3_insertZeros_36 rfl (lv_at hl 0 rfl) ?_
          refine lv_aload_n (pc := 37) hx hb dX3_insertZeros_37 rfl (lv_at hl 1 rfl) ?_
          refine gf_X3_9 (pc := 38) C hw 0 rfl rfl dX3_insertZeros_38 ?_
          refine lv_iload_n (pc := 41) hx hb dX3_insertZeros_41 rfl (lv_at hl 0 rfl) ?_
          obtain ⟨hi_10, h⟩ := og_at h
          refine x_iald (pc := 42) C hw 1 rfl hi_10 dX3_insertZeros_42 ?_
          refine lv_iload_n (pc := 43) hx hb dX3_insertZeros_43 rfl (lv_at hl 0 rfl) ?_
          refine lv_iload_n (pc := 44) hx hb dX3_insertZeros_44 rfl (lv_at hl 2 rfl) ?_
          obtain ⟨r_11, hq_12, h⟩ := nt1_at h
          refine x_callS (pc := 45) (rest := [.int (v_packed_6 (Int32.toNatClampNeg x3_5)), .int x3_5, .ref a_packed]) (stk := [.int r_11, .int (v_packed_6 (Int32.toNatClampNeg x3_5)), .int x3_5, .ref a_packed]) (wX3_insertZeros cB cI cZ a_this a_packed v_size v_pressed v_packed_6) C hw (ct_X3_behind l D cB cI cZ tw x3_5 x1 r_11 hq_12.symm) cal_X3_behind tw_685 [] [0, 1] 2 [oX3 a_this a_packed v_size v_pressed, (a_packed, .inl (cI, 11250, .inl v_packed_6))] rfl rfl rfl rfl rfl rfl rfl rfl rfl rfl rfl (Nat.le_of_ble_eq_true rfl) hl.1 ⟨Nat.le_of_ble_eq_true rfl, Nat.le_of_ble_eq_true rfl⟩ ⟨Nat.zero_le _, Nat.zero_le _⟩ dX3_insertZeros_45 (fun H locs hw => ?_)
          refine lv_iconst (pc := 48) (v := (-1)) hx hb dX3_insertZeros_48 (by decide) ?_
          refine lv_ixor (pc := 49) hx hb dX3_insertZeros_49 ?_
          refine lv_iand (pc := 50) hx hb dX3_insertZeros_50 ?_
          refine lv_aload_n (pc := 51) hx hb dX3_insertZeros_51 rfl (lv_at hl 1 rfl) ?_
          refine lv_bipush (pc := 52) (v := 32) hx hb dX3_insertZeros_52 (by decide) ?_
          refine lv_iload_n (pc := 54) hx hb dX3_insertZeros_54 rfl (lv_at hl 0 rfl) ?_
          refine lv_imul (pc := 55) hx hb dX3_insertZeros_55 ?_
          refine lv_iload_n (pc := 56) hx hb dX3_insertZeros_56 rfl (lv_at hl 3 rfl) ?_
          refine lv_isub (pc := 57) hx hb dX3_insertZeros_57 ?_
          obtain ⟨r_13, hq_14, h⟩ := ob1_at h
          refine x_callV (pc := 58) (rest := [.int ((v_packed_6 (Int32.toNatClampNeg x3_5)) &&& (r_11 ^^^ (-1 : Int32))), .int x3_5, .ref a_packed]) (stk := [.int r_13, .int ((v_packed_6 (Int32.toNatClampNeg x3_5)) &&& (r_11 ^^^ (-1 : Int32))), .int x3_5, .ref a_packed]) (wX3_insertZeros cB cI cZ a_this a_packed v_size v_pressed v_packed_6) C hw (ct_X3_peek l D cB cI cZ tw a_this a_packed v_size v_pressed v_packed_6 (((32 : Int32) * x3_5) - x2) r_13 hq_14) cal_X3_peek tw_608 (q0 := 0) rfl rfl [0, 1] [] 2 [] rfl rfl rfl rfl rfl rfl rfl rfl rfl rfl rfl (Nat.le_of_ble_eq_true rfl) hl.1 ⟨Nat.le_of_ble_eq_true rfl, Nat.le_of_ble_eq_true rfl⟩ ⟨Nat.zero_le _, Nat.zero_le _⟩ dX3_insertZeros_58 (fun H locs hw => ?_)
          refine lv_iload_n (pc := 61) hx hb dX3_insertZeros_61 rfl (lv_at hl 0 rfl) ?_
          refine lv_iload_n (pc := 62) hx hb dX3_insertZeros_62 rfl (lv_at hl 2 rfl) ?_
          refine lv_iload_n (pc := 63) hx hb dX3_insertZeros_63 rfl (lv_at hl 3 rfl) ?_
          refine lv_iadd (pc := 64) hx hb dX3_insertZeros_64 ?_
          obtain ⟨r_15, hq_16, h⟩ := nt1_at h
          refine x_callS (pc := 65) (rest := [.int r_13, .int ((v_packed_6 (Int32.toNatClampNeg x3_5)) &&& (r_11 ^^^ (-1 : Int32))), .int x3_5, .ref a_packed]) (stk := [.int r_15, .int r_13, .int ((v_packed_6 (Int32.toNatClampNeg x3_5)) &&& (r_11 ^^^ (-1 : Int32))), .int x3_5, .ref a_packed]) (wX3_insertZeros cB cI cZ a_this a_packed v_size v_pressed v_packed_6) C hw (ct_X3_behind l D cB cI cZ tw x3_5 (x1 + x2) r_15 hq_16.symm) cal_X3_behind tw_685 [] [0, 1] 2 [oX3 a_this a_packed v_size v_pressed, (a_packed, .inl (cI, 11250, .inl v_packed_6))] rfl rfl rfl rfl rfl rfl rfl rfl rfl rfl rfl (Nat.le_of_ble_eq_true rfl) hl.1 ⟨Nat.le_of_ble_eq_true rfl, Nat.le_of_ble_eq_true rfl⟩ ⟨Nat.zero_le _, Nat.zero_le _⟩ dX3_insertZeros_65 (fun H locs hw => ?_)
          refine lv_iand (pc := 68) hx hb dX3_insertZeros_68 ?_
          refine lv_ior (pc := 69) hx hb dX3_insertZeros_69 ?_
          obtain ⟨hi_17, h⟩ := og_at h
          obtain ⟨v_packed_18, ev_packed_18⟩ : ∃ y : Nat → Int32, y = upd v_packed_6 (Int32.toNatClampNeg x3_5) (((v_packed_6 (Int32.toNatClampNeg x3_5)) &&& (r_11 ^^^ (-1 : Int32))) ||| (r_13 &&& r_15)) := ⟨_, rfl⟩
          have h := nm_at ev_packed_18 h
          refine x_iast (pc := 70) (wX3_insertZeros cB cI cZ a_this a_packed v_size v_pressed v_packed_18) C hw 1 rfl hi_17 (by rw [ev_packed_18]; rfl) dX3_insertZeros_70 (fun H locs hw => ?_)
          obtain ⟨x3_19, ex3_19⟩ : ∃ y : Int32, y = x3_5 + (-1) := ⟨_, rfl⟩
          have h := nm_at ex3_19 h
          refine lv_iinc (pc := 71) (v := x3_19) (lv' := [(3, .int x3_19), (0, .ref a_this), (1, .int x1), (2, .int x2)]) hx hb dX3_insertZeros_71 hl (k := 0) rfl (by rw [ex3_19]; rfl) (by decide) rfl (fun ls hl => ?_)
          refine lv_goto (pc := 74) (tgt := 21) hx hb dX3_insertZeros_74 (by decide) ?_
          exact ih21_7 x3_19 v_packed_18 ls _ _ (lv_sub hl [0, 1, 2, 3] rfl) hw h
  exact Lih21_7 FU x3_1 v_packed ls _ _ (lv_sub hl [0, 1, 2, 3] rfl) hw h
def wX3_remove (cB cI cZ : ClassId) (a_this : Nat) (a_packed : Nat) (v_size : Int32) (v_pressed : Int32) (v_packed : Nat → Int32) : va_W := [oX3 a_this a_packed v_size v_pressed, (a_packed, .inl (cI, 11250, .inl v_packed))]
def fX3_remove_L20 (j90_4 : (Nat → Int32) → Option (Int32 × (Nat → Int32))) (v_size : Int32) (x1 : Int32) (x3_1 : Int32) : Nat → Int32 → (Nat → Int32) → Option (Int32 × (Nat → Int32))
  | 0, _, _ => none
  | F20_8 + 1, x4_6, v_packed_7 => if (11250 : Int32) ≤ x4_6 then j90_4 v_packed_7 else if v_size ≤ ((32 : Int32) * x4_6) then j90_4 v_packed_7 else og (ixb x4_6 11250) (nt1 (fX3_behind x4_6 x1) fun r_12 => ob1 (fX3_peek v_packed_7 (((32 : Int32) * x4_6) + x3_1)) fun r_14 => nt1 (fX3_behind x4_6 x1) fun r_16 => og (ixb x4_6 11250) (nm (upd v_packed_7 (Int32.toNatClampNeg x4_6) (((v_packed_7 (Int32.toNatClampNeg x4_6)) &&& (r_12 ^^^ (-1 : Int32))) ||| (r_14 &&& r_16))) fun v_packed_19 => nm (x4_6 + 1 : Int32) fun x4_20 => fX3_remove_L20 j90_4 v_size x1 x3_1 F20_8 x4_20 v_packed_19))
def fX3_remove (v_size : Int32) (v_packed : Nat → Int32) (x1 : Int32) (x2 : Int32) : Option (Int32 × (Nat → Int32)) := nm ((if (v_size - x1) < x2 then (v_size - x1) else x2 : Int32) : Int32) fun x3_1 => nm (((if x1 < (0 : Int32) then (0 : Int32) else x1 : Int32) >>> ((5 : Int32) &&& 31) : Int32) : Int32) fun x4_2 => jk (fun (v_packed_3 : Nat → Int32) => nm ((v_size - x3_1) : Int32) fun v_size_5 => some (v_size_5, v_packed_3)) fun j90_4 => fX3_remove_L20 j90_4 v_size x1 x3_1 FU x4_2 v_packed
set_option maxHeartbeats 4000000 in
set_option maxRecDepth 100000 in
theorem ct_X3_remove (l : Launch) (D : va_G) (cB cI cZ : ClassId) (tw : Nat) (a_this : Nat) (a_packed : Nat) (v_size : Int32) (v_pressed : Int32) (v_packed : Nat → Int32) (x1 : Int32) (x2 : Int32) (res : Int32 × (Nat → Int32)) (h : fX3_remove v_size v_packed x1 x2 = some res) : Ctr l yX3_remove cX3_remove 5 none (rmK 2 44) D (tyL cB cI cZ) tw [.ref a_this, .int x1, .int x2] (wX3_remove cB cI cZ a_this a_packed v_size v_pressed v_packed) (fun _ : Int32 × (Nat → Int32) => none) (fun res : Int32 × (Nat → Int32) => (wX3_remove cB cI cZ a_this a_packed (res.1) v_pressed (res.2))) res := by
  refine ctr_of RX3 (by decide) rfl (Nat.le_of_ble_eq_true rfl) ?_
  intro p e s m below meth c A C hw ls hl
  have hx := C.1
  have hb := C.2.1
  have hl : lv_has ls 5 [(0, .ref a_this), (1, .int x1), (2, .int x2)] := hl
  unfold fX3_remove at h
  refine lv_iload_n (pc := 0) hx hb dX3_remove_0 rfl (lv_at hl 2 rfl) ?_
  refine lv_aload_n (pc := 1) hx hb dX3_remove_1 rfl (lv_at hl 0 rfl) ?_
  refine gf_X3_21 (pc := 2) C hw 0 rfl rfl dX3_remove_2 ?_
  refine lv_iload_n (pc := 5) hx hb dX3_remove_5 rfl (lv_at hl 1 rfl) ?_
  refine lv_isub (pc := 6) hx hb dX3_remove_6 ?_
  refine va_mmin (pc := 7) (own := RX3) hx hb (C.2.2.1.trans hl.1.symm) C.2.2.2.1 (C.2.2.2.2.1 _ tw_622) (C.2.2.2.2.1 _ tw_623) (C.2.2.2.2.1 _ tw_14) (C.2.2.2.2.1 _ tw_624) (Nat.le_of_ble_eq_true rfl) (Nat.le_of_ble_eq_true rfl) (Nat.zero_le _) (Nat.zero_le _) dX3_remove_7 ?_
  refine lv_topi (pc := 10) (fun x3_1 ex3_1 => ?_)
  have h := nm_at ex3_1 h
  refine lv_istore_n (pc := 10) (lv' := [(3, .int x3_1), (0, .ref a_this), (1, .int x1), (2, .int x2)]) hx hb dX3_remove_10 rfl hl (by decide) rfl (fun ls hl => ?_)
  refine lv_iload_n (pc := 11) hx hb dX3_remove_11 rfl (lv_at hl 2 rfl) ?_
  refine lv_iconst (pc := 12) (v := 0) hx hb dX3_remove_12 (by decide) ?_
  refine va_mmax (pc := 13) (own := RX3) hx hb (C.2.2.1.trans hl.1.symm) C.2.2.2.1 (C.2.2.2.2.1 _ tw_646) (C.2.2.2.2.1 _ tw_647) (C.2.2.2.2.1 _ tw_14) (C.2.2.2.2.1 _ tw_648) (Nat.le_of_ble_eq_true rfl) (Nat.le_of_ble_eq_true rfl) (Nat.zero_le _) (Nat.zero_le _) dX3_remove_13 ?_
  refine lv_iconst (pc := 16) (v := 5) hx hb dX3_remove_16 (by decide) ?_
  refine lv_ishr (pc := 17) hx hb dX3_remove_17 ?_
  refine lv_topi (pc := 18) (fun x4_2 ex4_2 => ?_)
  have h := nm_at ex4_2 h
  refine lv_istore (pc := 18) (lv' := [(4, .int x4_2), (3, .int x3_1), (0, .ref a_this), (1, .int x1), (2, .int x2)]) hx hb dX3_remove_18 hl (by decide) rfl (fun ls hl => ?_)
  obtain ⟨j90_4, ej90_4, h⟩ := jk_at h
  have J90_4 : ∀ (v_packed_3 : Nat → Int32) (ls : Array Slot) (H : Heap) (locs : List Loc), lv_has ls 5 [(3, .int x3_1), (0, .ref a_this)] → Wd D A s (wX3_remove cB cI cZ a_this a_packed v_size v_pressed v_packed_3) H locs → j90_4 v_packed_3 = some res → W p l e (rmK 2 44) s m ([.ref a_this, .int x1, .int x2] : List Value).toArray below meth c H locs 0 0 (MQ below (QG D (tyL cB cI cZ) A (fun _ : Int32 × (Nat → Int32) => none) (fun res : Int32 × (Nat → Int32) => (wX3_remove cB cI cZ a_this a_packed (res.1) v_pressed (res.2))) res) ([.ref a_this, .int x1, .int x2] : List Value).toArray s 0 0 A) (F0 m 90 ls []) := by
    intro v_packed_3 ls H locs hl hw h
    have h := k1_at ej90_4 h
    refine lv_aload_n (pc := 90) hx hb dX3_remove_90 rfl (lv_at hl 1 rfl) ?_
    refine lv_dup (pc := 91) hx hb dX3_remove_91 rfl ?_
    refine gf_X3_21 (pc := 92) C hw 0 rfl rfl dX3_remove_92 ?_
    refine lv_iload_n (pc := 95) hx hb dX3_remove_95 rfl (lv_at hl 0 rfl) ?_
    refine lv_isub (pc := 96) hx hb dX3_remove_96 ?_
    refine lv_topi (pc := 97) (fun v_size_5 ev_size_5 => ?_)
    have h := nm_at ev_size_5 h
    refine pf_X3_21 (pc := 97) (wX3_remove cB cI cZ a_this a_packed v_size_5 v_pressed v_packed_3) C hw 0 rfl rfl rfl rfl (Nat.le_of_ble_eq_true rfl) dX3_remove_97 (fun H locs hw => ?_)
    exact x_vret (pc := 100) (v := (v_size_5, v_packed_3)) C (Option.some.inj h) rfl hw dX3_remove_100
  have Lih20_8 : ∀ (F : Nat) (x4_6 : Int32) (v_packed_7 : Nat → Int32) (ls : Array Slot) (H : Heap) (locs : List Loc), lv_has ls 5 [(4, .int x4_6), (3, .int x3_1), (0, .ref a_this), (1, .int x1)] → Wd D A s (wX3_remove cB cI cZ a_this a_packed v_size v_pressed v_packed_7) H locs → fX3_remove_L20 j90_4 v_size x1 x3_1 F x4_6 v_packed_7 = some res → W p l e (rmK 2 44) s m ([.ref a_this, .int x1, .int x2] : List Value).toArray below meth c H locs 0 0 (MQ below (QG D (tyL cB cI cZ) A (fun _ : Int32 × (Nat → Int32) => none) (fun res : Int32 × (Nat → Int32) => (wX3_remove cB cI cZ a_this a_packed (res.1) v_pressed (res.2))) res) ([.ref a_this, .int x1, .int x2] : List Value).toArray s 0 0 A) (F0 m 20 ls []) := by
    intro F
    induction F with
    | zero => intro x4_6 v_packed_7 ls H locs hl hw h; rw [fX3_remove_L20.eq_1] at h; cases h
    | succ F20_8 ih20_8 =>
      intro x4_6 v_packed_7 ls H locs hl hw h
      rw [fX3_remove_L20.eq_2] at h
      refine lv_iload (pc := 20) hx hb dX3_remove_20 (lv_at hl 0 rfl) ?_
      refine lv_aload_n (pc := 22) hx hb dX3_remove_22 rfl (lv_at hl 2 rfl) ?_
      refine gf_X3_9 (pc := 23) C hw 0 rfl rfl dX3_remove_23 ?_
      refine x_ilen (pc := 26) 11250 C hw 1 1 rfl rfl (by decide) dX3_remove_26 ?_
      refine lv_icmp_ge (pc := 27) (tgt := 90) hx hb dX3_remove_27 (by decide) (fun hc_9 => ?_) (fun hc_9 => ?_)
      · have h := ift hc_9 h
        exact J90_4 v_packed_7 ls _ _ (lv_sub hl [1, 2] rfl) hw h
      · have h := iff' hc_9 h
        refine lv_bipush (pc := 30) (v := 32) hx hb dX3_remove_30 (by decide) ?_
        refine lv_iload (pc := 32) hx hb dX3_remove_32 (lv_at hl 0 rfl) ?_
        refine lv_imul (pc := 34) hx hb dX3_remove_34 ?_
        refine lv_aload_n (pc := 35) hx hb dX3_remove_35 rfl (lv_at hl 2 rfl) ?_
        refine gf_X3_21 (pc := 36) C hw 0 rfl rfl dX3_remove_36 ?_
        refine lv_icmp_ge (pc := 39) (tgt := 90) hx hb dX3_remove_39 (by decide) (fun hc_10 => ?_) (fun hc_10 => ?_)
        · have h := ift hc_10 h
          exact J90_4 v_packed_7 ls _ _ (lv_sub hl [1, 2] rfl) hw h
        · have h := iff' hc_10 h
          refine lv_aload_n (pc := 42) hx hb dX3_remove_42 rfl (lv_at hl 2 rfl) ?_
          refine gf_X3_9 (pc := 43) C hw 0 rfl rfl dX3_remove_43 ?_
          refine lv_iload (pc := 46) hx hb dX3_remove_46 (lv_at hl 0 rfl) ?_
          refine lv_aload_n (pc := 48) hx hb dX3_remove_48 rfl (lv_at hl 2 rfl) ?_
          refine gf_X3_9 (pc := 49) C hw 0 rfl rfl dX3_remove_49 ?_
          refine lv_iload (pc := 52) hx hb dX3_remove_52 (lv_at hl 0 rfl) ?_
          obtain ⟨hi_11, h⟩ := og_at h
          refine x_iald (pc := 54) C hw 1 rfl hi_11 dX3_remove_54 ?_
          refine lv_iload (pc := 55) hx hb dX3_remove_55 (lv_at hl 0 rfl) ?_
          refine lv_iload_n (pc := 57) hx hb dX3_remove_57 rfl (lv_at hl 3 rfl) ?_
          obtain ⟨r_12, hq_13, h⟩ := nt1_at h
          refine x_callS (pc := 58) (rest := [.int (v_packed_7 (Int32.toNatClampNeg x4_6)), .int x4_6, .ref a_packed]) (stk := [.int r_12, .int (v_packed_7 (Int32.toNatClampNeg x4_6)), .int x4_6, .ref a_packed]) (wX3_remove cB cI cZ a_this a_packed v_size v_pressed v_packed_7) C hw (ct_X3_behind l D cB cI cZ tw x4_6 x1 r_12 hq_13.symm) cal_X3_behind tw_685 [] [0, 1] 2 [oX3 a_this a_packed v_size v_pressed, (a_packed, .inl (cI, 11250, .inl v_packed_7))] rfl rfl rfl rfl rfl rfl rfl rfl rfl rfl rfl (Nat.le_of_ble_eq_true rfl) hl.1 ⟨Nat.le_of_ble_eq_true rfl, Nat.le_of_ble_eq_true rfl⟩ ⟨Nat.zero_le _, Nat.zero_le _⟩ dX3_remove_58 (fun H locs hw => ?_)
          refine lv_iconst (pc := 61) (v := (-1)) hx hb dX3_remove_61 (by decide) ?_
          refine lv_ixor (pc := 62) hx hb dX3_remove_62 ?_
          refine lv_iand (pc := 63) hx hb dX3_remove_63 ?_
          refine lv_aload_n (pc := 64) hx hb dX3_remove_64 rfl (lv_at hl 2 rfl) ?_
          refine lv_bipush (pc := 65) (v := 32) hx hb dX3_remove_65 (by decide) ?_
          refine lv_iload (pc := 67) hx hb dX3_remove_67 (lv_at hl 0 rfl) ?_
          refine lv_imul (pc := 69) hx hb dX3_remove_69 ?_
          refine lv_iload_n (pc := 70) hx hb dX3_remove_70 rfl (lv_at hl 1 rfl) ?_
          refine lv_iadd (pc := 71) hx hb dX3_remove_71 ?_
          obtain ⟨r_14, hq_15, h⟩ := ob1_at h
          refine x_callV (pc := 72) (rest := [.int ((v_packed_7 (Int32.toNatClampNeg x4_6)) &&& (r_12 ^^^ (-1 : Int32))), .int x4_6, .ref a_packed]) (stk := [.int r_14, .int ((v_packed_7 (Int32.toNatClampNeg x4_6)) &&& (r_12 ^^^ (-1 : Int32))), .int x4_6, .ref a_packed]) (wX3_remove cB cI cZ a_this a_packed v_size v_pressed v_packed_7) C hw (ct_X3_peek l D cB cI cZ tw a_this a_packed v_size v_pressed v_packed_7 (((32 : Int32) * x4_6) + x3_1) r_14 hq_15) cal_X3_peek tw_608 (q0 := 0) rfl rfl [0, 1] [] 2 [] rfl rfl rfl rfl rfl rfl rfl rfl rfl rfl rfl (Nat.le_of_ble_eq_true rfl) hl.1 ⟨Nat.le_of_ble_eq_true rfl, Nat.le_of_ble_eq_true rfl⟩ ⟨Nat.zero_le _, Nat.zero_le _⟩ dX3_remove_72 (fun H locs hw => ?_)
          refine lv_iload (pc := 75) hx hb dX3_remove_75 (lv_at hl 0 rfl) ?_
          refine lv_iload_n (pc := 77) hx hb dX3_remove_77 rfl (lv_at hl 3 rfl) ?_
          obtain ⟨r_16, hq_17, h⟩ := nt1_at h
          refine x_callS (pc := 78) (rest := [.int r_14, .int ((v_packed_7 (Int32.toNatClampNeg x4_6)) &&& (r_12 ^^^ (-1 : Int32))), .int x4_6, .ref a_packed]) (stk := [.int r_16, .int r_14, .int ((v_packed_7 (Int32.toNatClampNeg x4_6)) &&& (r_12 ^^^ (-1 : Int32))), .int x4_6, .ref a_packed]) (wX3_remove cB cI cZ a_this a_packed v_size v_pressed v_packed_7) C hw (ct_X3_behind l D cB cI cZ tw x4_6 x1 r_16 hq_17.symm) cal_X3_behind tw_685 [] [0, 1] 2 [oX3 a_this a_packed v_size v_pressed, (a_packed, .inl (cI, 11250, .inl v_packed_7))] rfl rfl rfl rfl rfl rfl rfl rfl rfl rfl rfl (Nat.le_of_ble_eq_true rfl) hl.1 ⟨Nat.le_of_ble_eq_true rfl, Nat.le_of_ble_eq_true rfl⟩ ⟨Nat.zero_le _, Nat.zero_le _⟩ dX3_remove_78 (fun H locs hw => ?_)
          refine lv_iand (pc := 81) hx hb dX3_remove_81 ?_
          refine lv_ior (pc := 82) hx hb dX3_remove_82 ?_
          obtain ⟨hi_18, h⟩ := og_at h
          obtain ⟨v_packed_19, ev_packed_19⟩ : ∃ y : Nat → Int32, y = upd v_packed_7 (Int32.toNatClampNeg x4_6) (((v_packed_7 (Int32.toNatClampNeg x4_6)) &&& (r_12 ^^^ (-1 : Int32))) ||| (r_14 &&& r_16)) := ⟨_, rfl⟩
          have h := nm_at ev_packed_19 h
          refine x_iast (pc := 83) (wX3_remove cB cI cZ a_this a_packed v_size v_pressed v_packed_19) C hw 1 rfl hi_18 (by rw [ev_packed_19]; rfl) dX3_remove_83 (fun H locs hw => ?_)
          obtain ⟨x4_20, ex4_20⟩ : ∃ y : Int32, y = x4_6 + 1 := ⟨_, rfl⟩
          have h := nm_at ex4_20 h
          refine lv_iinc (pc := 84) (v := x4_20) (lv' := [(4, .int x4_20), (3, .int x3_1), (0, .ref a_this), (1, .int x1)]) hx hb dX3_remove_84 hl (k := 0) rfl (by rw [ex4_20]; rfl) (by decide) rfl (fun ls hl => ?_)
          refine lv_goto (pc := 87) (tgt := 20) hx hb dX3_remove_87 (by decide) ?_
          exact ih20_8 x4_20 v_packed_19 ls _ _ (lv_sub hl [0, 1, 2, 3] rfl) hw h
  exact Lih20_8 FU x4_2 v_packed ls _ _ (lv_sub hl [0, 1, 2, 3] rfl) hw h
def wX3_rise (cB cI cZ : ClassId) : va_W := []
def fX3_rise (x0 : Int32) (x1 : Int32) : Int32 := nm ((x0 ^^^ (UInt32.toInt32 (Int32.toUInt32 x0 >>> (Int32.toUInt32 1 &&& Int32.toUInt32 31)))) : Int32) fun x2_1 => nm ((x2_1 ^^^ (UInt32.toInt32 (Int32.toUInt32 x2_1 >>> (Int32.toUInt32 2 &&& Int32.toUInt32 31)))) : Int32) fun x2_2 => nm ((x2_2 ^^^ (UInt32.toInt32 (Int32.toUInt32 x2_2 >>> (Int32.toUInt32 4 &&& Int32.toUInt32 31)))) : Int32) fun x2_3 => nm ((x2_3 ^^^ (UInt32.toInt32 (Int32.toUInt32 x2_3 >>> (Int32.toUInt32 8 &&& Int32.toUInt32 31)))) : Int32) fun x2_4 => nm ((x2_4 ^^^ (UInt32.toInt32 (Int32.toUInt32 x2_4 >>> (Int32.toUInt32 16 &&& Int32.toUInt32 31)))) : Int32) fun x2_5 => jk (fun (t_6 : Int32) => nt1 (fJ6_bitCount_0f7a4 (x2_5 &&& t_6)) fun r_8 => (x1 - ((2 : Int32) * r_8))) fun j47_7 => if x1 < (32 : Int32) then j47_7 ((UInt32.toInt32 (Int32.toUInt32 (-1) >>> (Int32.toUInt32 x1 &&& Int32.toUInt32 31))) ^^^ (-1 : Int32)) else j47_7 (-1)
set_option maxHeartbeats 4000000 in
set_option maxRecDepth 100000 in
theorem ct_X3_rise (l : Launch) (D : va_G) (cB cI cZ : ClassId) (tw : Nat) (x0 : Int32) (x1 : Int32) (res : Int32) (h : fX3_rise x0 x1 = res) : Ctr l yX3_rise cX3_rise 4 (some .int) (rmK 1 20) D (tyL cB cI cZ) tw [.int x0, .int x1] (wX3_rise cB cI cZ) (fun res : Int32 => some (.int res)) (fun res : Int32 => (wX3_rise cB cI cZ)) res := by
  refine ctr_of RX3 (by decide) rfl (Nat.le_of_ble_eq_true rfl) ?_
  intro p e s m below meth c A C hw ls hl
  have hx := C.1
  have hb := C.2.1
  have hl : lv_has ls 4 [(0, .int x0), (1, .int x1)] := hl
  unfold fX3_rise at h
  refine lv_iload_n (pc := 0) hx hb dX3_rise_0 rfl (lv_at hl 0 rfl) ?_
  refine lv_iload_n (pc := 1) hx hb dX3_rise_1 rfl (lv_at hl 0 rfl) ?_
  refine lv_iconst (pc := 2) (v := 1) hx hb dX3_rise_2 (by decide) ?_
  refine lv_iushr (pc := 3) hx hb dX3_rise_3 rfl ?_
  refine lv_ixor (pc := 4) hx hb dX3_rise_4 ?_
  refine lv_topi (pc := 5) (fun x2_1 ex2_1 => ?_)
  have h := nm_at ex2_1 h
  refine lv_istore_n (pc := 5) (lv' := [(2, .int x2_1), (0, .int x0), (1, .int x1)]) hx hb dX3_rise_5 rfl hl (by decide) rfl (fun ls hl => ?_)
  refine lv_iload_n (pc := 6) hx hb dX3_rise_6 rfl (lv_at hl 0 rfl) ?_
  refine lv_iload_n (pc := 7) hx hb dX3_rise_7 rfl (lv_at hl 0 rfl) ?_
  refine lv_iconst (pc := 8) (v := 2) hx hb dX3_rise_8 (by decide) ?_
  refine lv_iushr (pc := 9) hx hb dX3_rise_9 rfl ?_
  refine lv_ixor (pc := 10) hx hb dX3_rise_10 ?_
  refine lv_topi (pc := 11) (fun x2_2 ex2_2 => ?_)
  have h := nm_at ex2_2 h
  refine lv_istore_n (pc := 11) (lv' := [(2, .int x2_2), (0, .int x0), (1, .int x1)]) hx hb dX3_rise_11 rfl hl (by decide) rfl (fun ls hl => ?_)
  refine lv_iload_n (pc := 12) hx hb dX3_rise_12 rfl (lv_at hl 0 rfl) ?_
  refine lv_iload_n (pc := 13) hx hb dX3_rise_13 rfl (lv_at hl 0 rfl) ?_
  refine lv_iconst (pc := 14) (v := 4) hx hb dX3_rise_14 (by decide) ?_
  refine lv_iushr (pc := 15) hx hb dX3_rise_15 rfl ?_
  refine lv_ixor (pc := 16) hx hb dX3_rise_16 ?_
  refine lv_topi (pc := 17) (fun x2_3 ex2_3 => ?_)
  have h := nm_at ex2_3 h
  refine lv_istore_n (pc := 17) (lv' := [(2, .int x2_3), (0, .int x0), (1, .int x1)]) hx hb dX3_rise_17 rfl hl (by decide) rfl (fun ls hl => ?_)
  refine lv_iload_n (pc := 18) hx hb dX3_rise_18 rfl (lv_at hl 0 rfl) ?_
  refine lv_iload_n (pc := 19) hx hb dX3_rise_19 rfl (lv_at hl 0 rfl) ?_
  refine lv_bipush (pc := 20) (v := 8) hx hb dX3_rise_20 (by decide) ?_
  refine lv_iushr (pc := 22) hx hb dX3_rise_22 rfl ?_
  refine lv_ixor (pc := 23) hx hb dX3_rise_23 ?_
  refine lv_topi (pc := 24) (fun x2_4 ex2_4 => ?_)
  have h := nm_at ex2_4 h
  refine lv_istore_n (pc := 24) (lv' := [(2, .int x2_4), (0, .int x0), (1, .int x1)]) hx hb dX3_rise_24 rfl hl (by decide) rfl (fun ls hl => ?_)
  refine lv_iload_n (pc := 25) hx hb dX3_rise_25 rfl (lv_at hl 0 rfl) ?_
  refine lv_iload_n (pc := 26) hx hb dX3_rise_26 rfl (lv_at hl 0 rfl) ?_
  refine lv_bipush (pc := 27) (v := 16) hx hb dX3_rise_27 (by decide) ?_
  refine lv_iushr (pc := 29) hx hb dX3_rise_29 rfl ?_
  refine lv_ixor (pc := 30) hx hb dX3_rise_30 ?_
  refine lv_topi (pc := 31) (fun x2_5 ex2_5 => ?_)
  have h := nm_at ex2_5 h
  refine lv_istore_n (pc := 31) (lv' := [(2, .int x2_5), (0, .int x0), (1, .int x1)]) hx hb dX3_rise_31 rfl hl (by decide) rfl (fun ls hl => ?_)
  refine lv_iload_n (pc := 32) hx hb dX3_rise_32 rfl (lv_at hl 2 rfl) ?_
  refine lv_bipush (pc := 33) (v := 32) hx hb dX3_rise_33 (by decide) ?_
  obtain ⟨j47_7, ej47_7, h⟩ := jk_at h
  have J47_7 : ∀ (t_6 : Int32) (ls : Array Slot) (H : Heap) (locs : List Loc), lv_has ls 4 [(2, .int x2_5), (1, .int x1)] → Wd D A s (wX3_rise cB cI cZ) H locs → j47_7 t_6 = res → W p l e (rmK 1 20) s m ([.int x0, .int x1] : List Value).toArray below meth c H locs 0 0 (MQ below (QG D (tyL cB cI cZ) A (fun res : Int32 => some (.int res)) (fun res : Int32 => (wX3_rise cB cI cZ)) res) ([.int x0, .int x1] : List Value).toArray s 0 0 A) (F0 m 47 ls [.int t_6]) := by
    intro t_6 ls H locs hl hw h
    have h := k1_at ej47_7 h
    refine lv_istore_n (pc := 47) (lv' := [(3, .int t_6), (2, .int x2_5), (1, .int x1)]) hx hb dX3_rise_47 rfl hl (by decide) rfl (fun ls hl => ?_)
    refine lv_iload_n (pc := 48) hx hb dX3_rise_48 rfl (lv_at hl 2 rfl) ?_
    refine lv_iconst (pc := 49) (v := 2) hx hb dX3_rise_49 (by decide) ?_
    refine lv_iload_n (pc := 50) hx hb dX3_rise_50 rfl (lv_at hl 1 rfl) ?_
    refine lv_iload_n (pc := 51) hx hb dX3_rise_51 rfl (lv_at hl 0 rfl) ?_
    refine lv_iand (pc := 52) hx hb dX3_rise_52 ?_
    obtain ⟨r_8, hq_9, h⟩ := nt1_at h
    refine x_callS (pc := 53) (rest := [.int 2, .int x1]) (stk := [.int r_8, .int 2, .int x1]) (wX3_rise cB cI cZ) C hw (ct_J6_bitCount_0f7a4 l D cB cI cZ tw (x2_5 &&& t_6) r_8 hq_9.symm) cal_J6_bitCount_0f7a4 tw_459 [] [] 0 [] rfl rfl rfl rfl rfl rfl rfl rfl rfl rfl rfl (Nat.le_of_ble_eq_true rfl) hl.1 ⟨Nat.le_of_ble_eq_true rfl, Nat.le_of_ble_eq_true rfl⟩ ⟨Nat.zero_le _, Nat.zero_le _⟩ dX3_rise_53 (fun H locs hw => ?_)
    refine lv_imul (pc := 56) hx hb dX3_rise_56 ?_
    refine lv_isub (pc := 57) hx hb dX3_rise_57 ?_
    exact x_iret (pc := 58) (v := (x1 - ((2 : Int32) * r_8))) C h rfl hw dX3_rise_58
  refine lv_icmp_lt (pc := 35) (tgt := 42) hx hb dX3_rise_35 (by decide) (fun hc_10 => ?_) (fun hc_10 => ?_)
  · have h := ift hc_10 h
    refine lv_iconst (pc := 42) (v := (-1)) hx hb dX3_rise_42 (by decide) ?_
    refine lv_iload_n (pc := 43) hx hb dX3_rise_43 rfl (lv_at hl 2 rfl) ?_
    refine lv_iushr (pc := 44) hx hb dX3_rise_44 rfl ?_
    refine lv_iconst (pc := 45) (v := (-1)) hx hb dX3_rise_45 (by decide) ?_
    refine lv_ixor (pc := 46) hx hb dX3_rise_46 ?_
    exact J47_7 ((UInt32.toInt32 (Int32.toUInt32 (-1) >>> (Int32.toUInt32 x1 &&& Int32.toUInt32 31))) ^^^ (-1 : Int32)) ls _ _ (lv_sub hl [0, 2] rfl) hw h
  · have h := iff' hc_10 h
    refine lv_iconst (pc := 38) (v := (-1)) hx hb dX3_rise_38 (by decide) ?_
    refine lv_goto (pc := 39) (tgt := 47) hx hb dX3_rise_39 (by decide) ?_
    exact J47_7 (-1) ls _ _ (lv_sub hl [0, 2] rfl) hw h
def wX3_balanceBehind (cB cI cZ : ClassId) (a_this : Nat) (a_packed : Nat) (v_size : Int32) (v_pressed : Int32) (v_packed : Nat → Int32) : va_W := [oX3 a_this a_packed v_size v_pressed, (a_packed, .inl (cI, 11250, .inl v_packed))]
def fX3_balanceBehind_L7 (x1 : Int32) (v_packed : Nat → Int32) : Nat → Int32 → Int32 → Int32 → Option (Int32)
  | 0, _, _, _ => none
  | F7_4 + 1, x4_1, x3_2, x2_3 => if x1 ≤ ((32 : Int32) * x4_1) then some x2_3 else ob1 (fX3_cell v_packed x4_1) fun r_6 => nt1 (fX3_rise r_6 (if (x1 - ((32 : Int32) * x4_1)) < (32 : Int32) then (x1 - ((32 : Int32) * x4_1)) else (32 : Int32) : Int32)) fun r_8 => nm ((x2_3 + (x3_2 * r_8)) : Int32) fun x2_10 => nt1 (fJ6_bitCount_0f7a4 r_6) fun r_11 => jk (fun (x3_13 : Int32) => nm (x4_1 + 1 : Int32) fun x4_15 => fX3_balanceBehind_L7 x1 v_packed F7_4 x4_15 x3_13 x2_10) fun j60_14 => if (r_11 - r_11 / (2 : Int32) * (2 : Int32)) = (1 : Int32) then nm ((-x3_2) : Int32) fun x3_17 => j60_14 x3_17 else j60_14 x3_2
def fX3_balanceBehind (v_packed : Nat → Int32) (x1 : Int32) : Option (Int32) := fX3_balanceBehind_L7 x1 v_packed FU 0 1 0
set_option maxHeartbeats 4000000 in
set_option maxRecDepth 100000 in
theorem ct_X3_balanceBehind (l : Launch) (D : va_G) (cB cI cZ : ClassId) (tw : Nat) (a_this : Nat) (a_packed : Nat) (v_size : Int32) (v_pressed : Int32) (v_packed : Nat → Int32) (x1 : Int32) (res : Int32) (h : fX3_balanceBehind v_packed x1 = some res) : Ctr l yX3_balanceBehind cX3_balanceBehind 6 (some .int) (rmK 2 43) D (tyL cB cI cZ) tw [.ref a_this, .int x1] (wX3_balanceBehind cB cI cZ a_this a_packed v_size v_pressed v_packed) (fun res : Int32 => some (.int res)) (fun res : Int32 => (wX3_balanceBehind cB cI cZ a_this a_packed v_size v_pressed v_packed)) res := by
  refine ctr_of RX3 (by decide) rfl (Nat.le_of_ble_eq_true rfl) ?_
  intro p e s m below meth c A C hw ls hl
  have hx := C.1
  have hb := C.2.1
  have hl : lv_has ls 6 [(0, .ref a_this), (1, .int x1)] := hl
  unfold fX3_balanceBehind at h
  refine lv_iconst (pc := 0) (v := 0) hx hb dX3_balanceBehind_0 (by decide) ?_
  refine lv_istore_n (pc := 1) (lv' := [(2, .int 0), (0, .ref a_this), (1, .int x1)]) hx hb dX3_balanceBehind_1 rfl hl (by decide) rfl (fun ls hl => ?_)
  refine lv_iconst (pc := 2) (v := 1) hx hb dX3_balanceBehind_2 (by decide) ?_
  refine lv_istore_n (pc := 3) (lv' := [(3, .int 1), (2, .int 0), (0, .ref a_this), (1, .int x1)]) hx hb dX3_balanceBehind_3 rfl hl (by decide) rfl (fun ls hl => ?_)
  refine lv_iconst (pc := 4) (v := 0) hx hb dX3_balanceBehind_4 (by decide) ?_
  refine lv_istore (pc := 5) (lv' := [(4, .int 0), (3, .int 1), (2, .int 0), (0, .ref a_this), (1, .int x1)]) hx hb dX3_balanceBehind_5 hl (by decide) rfl (fun ls hl => ?_)
  have Lih7_4 : ∀ (F : Nat) (x4_1 : Int32) (x3_2 : Int32) (x2_3 : Int32) (ls : Array Slot) (H : Heap) (locs : List Loc), lv_has ls 6 [(4, .int x4_1), (3, .int x3_2), (2, .int x2_3), (0, .ref a_this), (1, .int x1)] → Wd D A s (wX3_balanceBehind cB cI cZ a_this a_packed v_size v_pressed v_packed) H locs → fX3_balanceBehind_L7 x1 v_packed F x4_1 x3_2 x2_3 = some res → W p l e (rmK 2 43) s m ([.ref a_this, .int x1] : List Value).toArray below meth c H locs 0 0 (MQ below (QG D (tyL cB cI cZ) A (fun res : Int32 => some (.int res)) (fun res : Int32 => (wX3_balanceBehind cB cI cZ a_this a_packed v_size v_pressed v_packed)) res) ([.ref a_this, .int x1] : List Value).toArray s 0 0 A) (F0 m 7 ls []) := by
    intro F
    induction F with
    | zero => intro x4_1 x3_2 x2_3 ls H locs hl hw h; rw [fX3_balanceBehind_L7.eq_1] at h; cases h
    | succ F7_4 ih7_4 =>
      intro x4_1 x3_2 x2_3 ls H locs hl hw h
      rw [fX3_balanceBehind_L7.eq_2] at h
      refine lv_bipush (pc := 7) (v := 32) hx hb dX3_balanceBehind_7 (by decide) ?_
      refine lv_iload (pc := 9) hx hb dX3_balanceBehind_9 (lv_at hl 0 rfl) ?_
      refine lv_imul (pc := 11) hx hb dX3_balanceBehind_11 ?_
      refine lv_iload_n (pc := 12) hx hb dX3_balanceBehind_12 rfl (lv_at hl 4 rfl) ?_
      refine lv_icmp_ge (pc := 13) (tgt := 66) hx hb dX3_balanceBehind_13 (by decide) (fun hc_5 => ?_) (fun hc_5 => ?_)
      · have h := ift hc_5 h
        refine lv_iload_n (pc := 66) hx hb dX3_balanceBehind_66 rfl (lv_at hl 2 rfl) ?_
        exact x_iret (pc := 67) (v := x2_3) C (Option.some.inj h) rfl hw dX3_balanceBehind_67
      · have h := iff' hc_5 h
        refine lv_aload_n (pc := 16) hx hb dX3_balanceBehind_16 rfl (lv_at hl 3 rfl) ?_
        refine lv_iload (pc := 17) hx hb dX3_balanceBehind_17 (lv_at hl 0 rfl) ?_
        obtain ⟨r_6, hq_7, h⟩ := ob1_at h
        refine x_callV (pc := 19) (rest := []) (stk := [.int r_6]) (wX3_balanceBehind cB cI cZ a_this a_packed v_size v_pressed v_packed) C hw (ct_X3_cell l D cB cI cZ tw a_this a_packed v_size v_pressed v_packed x4_1 r_6 hq_7) cal_X3_cell tw_592 (q0 := 0) rfl rfl [0, 1] [] 2 [] rfl rfl rfl rfl rfl rfl rfl rfl rfl rfl rfl (Nat.le_of_ble_eq_true rfl) hl.1 ⟨Nat.le_of_ble_eq_true rfl, Nat.le_of_ble_eq_true rfl⟩ ⟨Nat.zero_le _, Nat.zero_le _⟩ dX3_balanceBehind_19 (fun H locs hw => ?_)
        refine lv_istore (pc := 22) (lv' := [(5, .int r_6), (4, .int x4_1), (3, .int x3_2), (2, .int x2_3), (0, .ref a_this), (1, .int x1)]) hx hb dX3_balanceBehind_22 hl (by decide) rfl (fun ls hl => ?_)
        refine lv_iload_n (pc := 24) hx hb dX3_balanceBehind_24 rfl (lv_at hl 3 rfl) ?_
        refine lv_iload_n (pc := 25) hx hb dX3_balanceBehind_25 rfl (lv_at hl 2 rfl) ?_
        refine lv_iload (pc := 26) hx hb dX3_balanceBehind_26 (lv_at hl 0 rfl) ?_
        refine lv_bipush (pc := 28) (v := 32) hx hb dX3_balanceBehind_28 (by decide) ?_
        refine lv_iload_n (pc := 30) hx hb dX3_balanceBehind_30 rfl (lv_at hl 5 rfl) ?_
        refine lv_bipush (pc := 31) (v := 32) hx hb dX3_balanceBehind_31 (by decide) ?_
        refine lv_iload (pc := 33) hx hb dX3_balanceBehind_33 (lv_at hl 1 rfl) ?_
        refine lv_imul (pc := 35) hx hb dX3_balanceBehind_35 ?_
        refine lv_isub (pc := 36) hx hb dX3_balanceBehind_36 ?_
        refine va_mmin (pc := 37) (own := RX3) hx hb (C.2.2.1.trans hl.1.symm) C.2.2.2.1 (C.2.2.2.2.1 _ tw_622) (C.2.2.2.2.1 _ tw_623) (C.2.2.2.2.1 _ tw_14) (C.2.2.2.2.1 _ tw_624) (Nat.le_of_ble_eq_true rfl) (Nat.le_of_ble_eq_true rfl) (Nat.zero_le _) (Nat.zero_le _) dX3_balanceBehind_37 ?_
        obtain ⟨r_8, hq_9, h⟩ := nt1_at h
        refine x_callS (pc := 40) (rest := [.int x3_2, .int x2_3]) (stk := [.int r_8, .int x3_2, .int x2_3]) (wX3_balanceBehind cB cI cZ a_this a_packed v_size v_pressed v_packed) C hw (ct_X3_rise l D cB cI cZ tw r_6 (if (x1 - ((32 : Int32) * x4_1)) < (32 : Int32) then (x1 - ((32 : Int32) * x4_1)) else (32 : Int32) : Int32) r_8 hq_9.symm) cal_X3_rise tw_625 [] [0, 1] 2 [oX3 a_this a_packed v_size v_pressed, (a_packed, .inl (cI, 11250, .inl v_packed))] rfl rfl rfl rfl rfl rfl rfl rfl rfl rfl rfl (Nat.le_of_ble_eq_true rfl) hl.1 ⟨Nat.le_of_ble_eq_true rfl, Nat.le_of_ble_eq_true rfl⟩ ⟨Nat.zero_le _, Nat.zero_le _⟩ dX3_balanceBehind_40 (fun H locs hw => ?_)
        refine lv_imul (pc := 43) hx hb dX3_balanceBehind_43 ?_
        refine lv_iadd (pc := 44) hx hb dX3_balanceBehind_44 ?_
        refine lv_topi (pc := 45) (fun x2_10 ex2_10 => ?_)
        have h := nm_at ex2_10 h
        refine lv_istore_n (pc := 45) (lv' := [(2, .int x2_10), (5, .int r_6), (4, .int x4_1), (3, .int x3_2), (0, .ref a_this), (1, .int x1)]) hx hb dX3_balanceBehind_45 rfl hl (by decide) rfl (fun ls hl => ?_)
        refine lv_iload (pc := 46) hx hb dX3_balanceBehind_46 (lv_at hl 1 rfl) ?_
        obtain ⟨r_11, hq_12, h⟩ := nt1_at h
        refine x_callS (pc := 48) (rest := []) (stk := [.int r_11]) (wX3_balanceBehind cB cI cZ a_this a_packed v_size v_pressed v_packed) C hw (ct_J6_bitCount_0f7a4 l D cB cI cZ tw r_6 r_11 hq_12.symm) cal_J6_bitCount_0f7a4 tw_459 [] [0, 1] 2 [oX3 a_this a_packed v_size v_pressed, (a_packed, .inl (cI, 11250, .inl v_packed))] rfl rfl rfl rfl rfl rfl rfl rfl rfl rfl rfl (Nat.le_of_ble_eq_true rfl) hl.1 ⟨Nat.le_of_ble_eq_true rfl, Nat.le_of_ble_eq_true rfl⟩ ⟨Nat.zero_le _, Nat.zero_le _⟩ dX3_balanceBehind_48 (fun H locs hw => ?_)
        refine lv_iconst (pc := 51) (v := 2) hx hb dX3_balanceBehind_51 (by decide) ?_
        refine lv_irem (pc := 52) hx hb dX3_balanceBehind_52 (by decide) ?_
        refine lv_iconst (pc := 53) (v := 1) hx hb dX3_balanceBehind_53 (by decide) ?_
        obtain ⟨j60_14, ej60_14, h⟩ := jk_at h
        have J60_14 : ∀ (x3_13 : Int32) (ls : Array Slot) (H : Heap) (locs : List Loc), lv_has ls 6 [(2, .int x2_10), (4, .int x4_1), (3, .int x3_13), (0, .ref a_this), (1, .int x1)] → Wd D A s (wX3_balanceBehind cB cI cZ a_this a_packed v_size v_pressed v_packed) H locs → j60_14 x3_13 = some res → W p l e (rmK 2 43) s m ([.ref a_this, .int x1] : List Value).toArray below meth c H locs 0 0 (MQ below (QG D (tyL cB cI cZ) A (fun res : Int32 => some (.int res)) (fun res : Int32 => (wX3_balanceBehind cB cI cZ a_this a_packed v_size v_pressed v_packed)) res) ([.ref a_this, .int x1] : List Value).toArray s 0 0 A) (F0 m 60 ls []) := by
          intro x3_13 ls H locs hl hw h
          have h := k1_at ej60_14 h
          obtain ⟨x4_15, ex4_15⟩ : ∃ y : Int32, y = x4_1 + 1 := ⟨_, rfl⟩
          have h := nm_at ex4_15 h
          refine lv_iinc (pc := 60) (v := x4_15) (lv' := [(4, .int x4_15), (2, .int x2_10), (3, .int x3_13), (0, .ref a_this), (1, .int x1)]) hx hb dX3_balanceBehind_60 hl (k := 1) rfl (by rw [ex4_15]; rfl) (by decide) rfl (fun ls hl => ?_)
          refine lv_goto (pc := 63) (tgt := 7) hx hb dX3_balanceBehind_63 (by decide) ?_
          exact ih7_4 x4_15 x3_13 x2_10 ls _ _ (lv_sub hl [0, 2, 1, 3, 4] rfl) hw h
        refine lv_icmp_ne (pc := 54) (tgt := 60) hx hb dX3_balanceBehind_54 (by decide) (fun hc_16 => ?_) (fun hc_16 => ?_)
        · have h := iff' hc_16 h
          exact J60_14 x3_2 ls _ _ (lv_sub hl [0, 2, 3, 4, 5] rfl) hw h
        · have h := ift hc_16 h
          refine lv_iload_n (pc := 57) hx hb dX3_balanceBehind_57 rfl (lv_at hl 3 rfl) ?_
          refine lv_ineg (pc := 58) hx hb dX3_balanceBehind_58 ?_
          refine lv_topi (pc := 59) (fun x3_17 ex3_17 => ?_)
          have h := nm_at ex3_17 h
          refine lv_istore_n (pc := 59) (lv' := [(3, .int x3_17), (2, .int x2_10), (5, .int r_6), (4, .int x4_1), (0, .ref a_this), (1, .int x1)]) hx hb dX3_balanceBehind_59 rfl hl (by decide) rfl (fun ls hl => ?_)
          exact J60_14 x3_17 ls _ _ (lv_sub hl [1, 3, 0, 4, 5] rfl) hw h
  exact Lih7_4 FU 0 1 0 ls _ _ (lv_sub hl [0, 1, 2, 3, 4] rfl) hw h
def wX3_extremeRun (cB cI cZ : ClassId) (a_this : Nat) (a_packed : Nat) (v_size : Int32) (v_pressed : Int32) (v_packed : Nat → Int32) : va_W := [oX3 a_this a_packed v_size v_pressed, (a_packed, .inl (cI, 11250, .inl v_packed))]
def fX3_extremeRun_L31 (j99_10 : Int32 → Int32 → Option (Int32)) (r_6 : Int32) (x1 : Int32) : Nat → Int32 → Int32 → Int32 → Option (Int32)
  | 0, _, _, _ => none
  | F31_15 + 1, x6_12, x3_13, x2_14 => if x6_12 < 0 then j99_10 x3_13 x2_14 else jk (fun (x3_17 : Int32) (x2_18 : Int32) => nm (x6_12 + (-1) : Int32) fun x6_20 => fX3_extremeRun_L31 j99_10 r_6 x1 F31_15 x6_20 x3_17 x2_18) fun j93_19 => if ((UInt32.toInt32 (Int32.toUInt32 r_6 >>> (Int32.toUInt32 x6_12 &&& Int32.toUInt32 31))) &&& (1 : Int32)) = (0 : Int32) then jk (fun (t_30 : Int32) => j93_19 t_30 x2_14) fun j58_31 => if x3_13 = (-1 : Int32) then j58_31 (-1) else j58_31 (x3_13 + (1 : Int32)) else jk (fun (x2_22 : Int32) => j93_19 0 x2_22) fun j91_23 => if x3_13 = (-1 : Int32) then j91_23 x2_14 else jk (j91_23 x3_13) fun j89_25 => if x2_14 = (-1 : Int32) then j89_25 else if x1 = 0 then if x2_14 ≤ x3_13 then j91_23 x2_14 else j89_25 else if x3_13 ≤ x2_14 then j91_23 x2_14 else j89_25
def fX3_extremeRun_L7 (v_size : Int32) (v_packed : Nat → Int32) (x1 : Int32) : Nat → Int32 → Int32 → Int32 → Option (Int32)
  | 0, _, _, _ => none
  | F7_4 + 1, x4_1, x3_2, x2_3 => if v_size ≤ ((32 : Int32) * x4_1) then some x2_3 else ob1 (fX3_cell v_packed x4_1) fun r_6 => jk (fun (x3_8 : Int32) (x2_9 : Int32) => nm (x4_1 + 1 : Int32) fun x4_11 => fX3_extremeRun_L7 v_size v_packed x1 F7_4 x4_11 x3_8 x2_9) fun j99_10 => fX3_extremeRun_L31 j99_10 r_6 x1 FU 31 x3_2 x2_3
def fX3_extremeRun (v_size : Int32) (v_packed : Nat → Int32) (x1 : Int32) : Option (Int32) := fX3_extremeRun_L7 v_size v_packed x1 FU 0 (-1) (-1)
set_option maxHeartbeats 4000000 in
set_option maxRecDepth 100000 in
theorem ct_X3_extremeRun (l : Launch) (D : va_G) (cB cI cZ : ClassId) (tw : Nat) (a_this : Nat) (a_packed : Nat) (v_size : Int32) (v_pressed : Int32) (v_packed : Nat → Int32) (x1 : Int32) (res : Int32) (h : fX3_extremeRun v_size v_packed x1 = some res) : Ctr l yX3_extremeRun cX3_extremeRun 7 (some .int) (rmK 1 21) D (tyL cB cI cZ) tw [.ref a_this, .int x1] (wX3_extremeRun cB cI cZ a_this a_packed v_size v_pressed v_packed) (fun res : Int32 => some (.int res)) (fun res : Int32 => (wX3_extremeRun cB cI cZ a_this a_packed v_size v_pressed v_packed)) res := by
  refine ctr_of RX3 (by decide) rfl (Nat.le_of_ble_eq_true rfl) ?_
  intro p e s m below meth c A C hw ls hl
  have hx := C.1
  have hb := C.2.1
  have hl : lv_has ls 7 [(0, .ref a_this), (1, .int x1)] := hl
  unfold fX3_extremeRun at h
  refine lv_iconst (pc := 0) (v := (-1)) hx hb dX3_extremeRun_0 (by decide) ?_
  refine lv_istore_n (pc := 1) (lv' := [(2, .int (-1)), (0, .ref a_this), (1, .int x1)]) hx hb dX3_extremeRun_1 rfl hl (by decide) rfl (fun ls hl => ?_)
  refine lv_iconst (pc := 2) (v := (-1)) hx hb dX3_extremeRun_2 (by decide) ?_
  refine lv_istore_n (pc := 3) (lv' := [(3, .int (-1)), (2, .int (-1)), (0, .ref a_this), (1, .int x1)]) hx hb dX3_extremeRun_3 rfl hl (by decide) rfl (fun ls hl => ?_)
  refine lv_iconst (pc := 4) (v := 0) hx hb dX3_extremeRun_4 (by decide) ?_
  refine lv_istore (pc := 5) (lv' := [(4, .int 0), (3, .int (-1)), (2, .int (-1)), (0, .ref a_this), (1, .int x1)]) hx hb dX3_extremeRun_5 hl (by decide) rfl (fun ls hl => ?_)
  have Lih7_4 : ∀ (F : Nat) (x4_1 : Int32) (x3_2 : Int32) (x2_3 : Int32) (ls : Array Slot) (H : Heap) (locs : List Loc), lv_has ls 7 [(4, .int x4_1), (3, .int x3_2), (2, .int x2_3), (0, .ref a_this), (1, .int x1)] → Wd D A s (wX3_extremeRun cB cI cZ a_this a_packed v_size v_pressed v_packed) H locs → fX3_extremeRun_L7 v_size v_packed x1 F x4_1 x3_2 x2_3 = some res → W p l e (rmK 1 21) s m ([.ref a_this, .int x1] : List Value).toArray below meth c H locs 0 0 (MQ below (QG D (tyL cB cI cZ) A (fun res : Int32 => some (.int res)) (fun res : Int32 => (wX3_extremeRun cB cI cZ a_this a_packed v_size v_pressed v_packed)) res) ([.ref a_this, .int x1] : List Value).toArray s 0 0 A) (F0 m 7 ls []) := by
    intro F
    induction F with
    | zero => intro x4_1 x3_2 x2_3 ls H locs hl hw h; rw [fX3_extremeRun_L7.eq_1] at h; cases h
    | succ F7_4 ih7_4 =>
      intro x4_1 x3_2 x2_3 ls H locs hl hw h
      rw [fX3_extremeRun_L7.eq_2] at h
      refine lv_bipush (pc := 7) (v := 32) hx hb dX3_extremeRun_7 (by decide) ?_
      refine lv_iload (pc := 9) hx hb dX3_extremeRun_9 (lv_at hl 0 rfl) ?_
      refine lv_imul (pc := 11) hx hb dX3_extremeRun_11 ?_
      refine lv_aload_n (pc := 12) hx hb dX3_extremeRun_12 rfl (lv_at hl 3 rfl) ?_
      refine gf_X3_21 (pc := 13) C hw 0 rfl rfl dX3_extremeRun_13 ?_
      refine lv_icmp_ge (pc := 16) (tgt := 105) hx hb dX3_extremeRun_16 (by decide) (fun hc_5 => ?_) (fun hc_5 => ?_)
      · have h := ift hc_5 h
        refine lv_iload_n (pc := 105) hx hb dX3_extremeRun_105 rfl (lv_at hl 2 rfl) ?_
        exact x_iret (pc := 106) (v := x2_3) C (Option.some.inj h) rfl hw dX3_extremeRun_106
      · have h := iff' hc_5 h
        refine lv_aload_n (pc := 19) hx hb dX3_extremeRun_19 rfl (lv_at hl 3 rfl) ?_
        refine lv_iload (pc := 20) hx hb dX3_extremeRun_20 (lv_at hl 0 rfl) ?_
        obtain ⟨r_6, hq_7, h⟩ := ob1_at h
        refine x_callV (pc := 22) (rest := []) (stk := [.int r_6]) (wX3_extremeRun cB cI cZ a_this a_packed v_size v_pressed v_packed) C hw (ct_X3_cell l D cB cI cZ tw a_this a_packed v_size v_pressed v_packed x4_1 r_6 hq_7) cal_X3_cell tw_592 (q0 := 0) rfl rfl [0, 1] [] 2 [] rfl rfl rfl rfl rfl rfl rfl rfl rfl rfl rfl (Nat.le_of_ble_eq_true rfl) hl.1 ⟨Nat.le_of_ble_eq_true rfl, Nat.le_of_ble_eq_true rfl⟩ ⟨Nat.zero_le _, Nat.zero_le _⟩ dX3_extremeRun_22 (fun H locs hw => ?_)
        refine lv_istore (pc := 25) (lv' := [(5, .int r_6), (4, .int x4_1), (3, .int x3_2), (2, .int x2_3), (0, .ref a_this), (1, .int x1)]) hx hb dX3_extremeRun_25 hl (by decide) rfl (fun ls hl => ?_)
        refine lv_bipush (pc := 27) (v := 31) hx hb dX3_extremeRun_27 (by decide) ?_
        refine lv_istore (pc := 29) (lv' := [(6, .int 31), (5, .int r_6), (4, .int x4_1), (3, .int x3_2), (2, .int x2_3), (0, .ref a_this), (1, .int x1)]) hx hb dX3_extremeRun_29 hl (by decide) rfl (fun ls hl => ?_)
        obtain ⟨j99_10, ej99_10, h⟩ := jk_at h
        have J99_10 : ∀ (x3_8 : Int32) (x2_9 : Int32) (ls : Array Slot) (H : Heap) (locs : List Loc), lv_has ls 7 [(4, .int x4_1), (3, .int x3_8), (2, .int x2_9), (0, .ref a_this), (1, .int x1)] → Wd D A s (wX3_extremeRun cB cI cZ a_this a_packed v_size v_pressed v_packed) H locs → j99_10 x3_8 x2_9 = some res → W p l e (rmK 1 21) s m ([.ref a_this, .int x1] : List Value).toArray below meth c H locs 0 0 (MQ below (QG D (tyL cB cI cZ) A (fun res : Int32 => some (.int res)) (fun res : Int32 => (wX3_extremeRun cB cI cZ a_this a_packed v_size v_pressed v_packed)) res) ([.ref a_this, .int x1] : List Value).toArray s 0 0 A) (F0 m 99 ls []) := by
          intro x3_8 x2_9 ls H locs hl hw h
          have h := k2_at ej99_10 h
          obtain ⟨x4_11, ex4_11⟩ : ∃ y : Int32, y = x4_1 + 1 := ⟨_, rfl⟩
          have h := nm_at ex4_11 h
          refine lv_iinc (pc := 99) (v := x4_11) (lv' := [(4, .int x4_11), (3, .int x3_8), (2, .int x2_9), (0, .ref a_this), (1, .int x1)]) hx hb dX3_extremeRun_99 hl (k := 0) rfl (by rw [ex4_11]; rfl) (by decide) rfl (fun ls hl => ?_)
          refine lv_goto (pc := 102) (tgt := 7) hx hb dX3_extremeRun_102 (by decide) ?_
          exact ih7_4 x4_11 x3_8 x2_9 ls _ _ (lv_sub hl [0, 1, 2, 3, 4] rfl) hw h
        have Lih31_15 : ∀ (F : Nat) (x6_12 : Int32) (x3_13 : Int32) (x2_14 : Int32) (ls : Array Slot) (H : Heap) (locs : List Loc), lv_has ls 7 [(6, .int x6_12), (5, .int r_6), (4, .int x4_1), (3, .int x3_13), (2, .int x2_14), (0, .ref a_this), (1, .int x1)] → Wd D A s (wX3_extremeRun cB cI cZ a_this a_packed v_size v_pressed v_packed) H locs → fX3_extremeRun_L31 j99_10 r_6 x1 F x6_12 x3_13 x2_14 = some res → W p l e (rmK 1 21) s m ([.ref a_this, .int x1] : List Value).toArray below meth c H locs 0 0 (MQ below (QG D (tyL cB cI cZ) A (fun res : Int32 => some (.int res)) (fun res : Int32 => (wX3_extremeRun cB cI cZ a_this a_packed v_size v_pressed v_packed)) res) ([.ref a_this, .int x1] : List Value).toArray s 0 0 A) (F0 m 31 ls []) := by
          intro F
          induction F with
          | zero => intro x6_12 x3_13 x2_14 ls H locs hl hw h; rw [fX3_extremeRun_L31.eq_1] at h; cases h
          | succ F31_15 ih31_15 =>
            intro x6_12 x3_13 x2_14 ls H locs hl hw h
            rw [fX3_extremeRun_L31.eq_2] at h
            refine lv_iload (pc := 31) hx hb dX3_extremeRun_31 (lv_at hl 0 rfl) ?_
            refine lv_if_lt (pc := 33) (tgt := 99) hx hb dX3_extremeRun_33 (by decide) (fun hc_16 => ?_) (fun hc_16 => ?_)
            · have h := ift hc_16 h
              exact J99_10 x3_13 x2_14 ls _ _ (lv_sub hl [2, 3, 4, 5, 6] rfl) hw h
            · have h := iff' hc_16 h
              refine lv_iload (pc := 36) hx hb dX3_extremeRun_36 (lv_at hl 1 rfl) ?_
              refine lv_iload (pc := 38) hx hb dX3_extremeRun_38 (lv_at hl 0 rfl) ?_
              refine lv_iushr (pc := 40) hx hb dX3_extremeRun_40 rfl ?_
              refine lv_iconst (pc := 41) (v := 1) hx hb dX3_extremeRun_41 (by decide) ?_
              refine lv_iand (pc := 42) hx hb dX3_extremeRun_42 ?_
              obtain ⟨j93_19, ej93_19, h⟩ := jk_at h
              have J93_19 : ∀ (x3_17 : Int32) (x2_18 : Int32) (ls : Array Slot) (H : Heap) (locs : List Loc), lv_has ls 7 [(6, .int x6_12), (5, .int r_6), (4, .int x4_1), (3, .int x3_17), (2, .int x2_18), (0, .ref a_this), (1, .int x1)] → Wd D A s (wX3_extremeRun cB cI cZ a_this a_packed v_size v_pressed v_packed) H locs → j93_19 x3_17 x2_18 = some res → W p l e (rmK 1 21) s m ([.ref a_this, .int x1] : List Value).toArray below meth c H locs 0 0 (MQ below (QG D (tyL cB cI cZ) A (fun res : Int32 => some (.int res)) (fun res : Int32 => (wX3_extremeRun cB cI cZ a_this a_packed v_size v_pressed v_packed)) res) ([.ref a_this, .int x1] : List Value).toArray s 0 0 A) (F0 m 93 ls []) := by
                intro x3_17 x2_18 ls H locs hl hw h
                have h := k2_at ej93_19 h
                obtain ⟨x6_20, ex6_20⟩ : ∃ y : Int32, y = x6_12 + (-1) := ⟨_, rfl⟩
                have h := nm_at ex6_20 h
                refine lv_iinc (pc := 93) (v := x6_20) (lv' := [(6, .int x6_20), (5, .int r_6), (4, .int x4_1), (3, .int x3_17), (2, .int x2_18), (0, .ref a_this), (1, .int x1)]) hx hb dX3_extremeRun_93 hl (k := 0) rfl (by rw [ex6_20]; rfl) (by decide) rfl (fun ls hl => ?_)
                refine lv_goto (pc := 96) (tgt := 31) hx hb dX3_extremeRun_96 (by decide) ?_
                exact ih31_15 x6_20 x3_17 x2_18 ls _ _ (lv_sub hl [0, 1, 2, 3, 4, 5, 6] rfl) hw h
              refine lv_if_ne (pc := 43) (tgt := 62) hx hb dX3_extremeRun_43 (by decide) (fun hc_21 => ?_) (fun hc_21 => ?_)
              · have h := iff' hc_21 h
                refine lv_iload_n (pc := 62) hx hb dX3_extremeRun_62 rfl (lv_at hl 3 rfl) ?_
                refine lv_iconst (pc := 63) (v := (-1)) hx hb dX3_extremeRun_63 (by decide) ?_
                obtain ⟨j91_23, ej91_23, h⟩ := jk_at h
                have J91_23 : ∀ (x2_22 : Int32) (ls : Array Slot) (H : Heap) (locs : List Loc), lv_has ls 7 [(6, .int x6_12), (5, .int r_6), (4, .int x4_1), (2, .int x2_22), (0, .ref a_this), (1, .int x1)] → Wd D A s (wX3_extremeRun cB cI cZ a_this a_packed v_size v_pressed v_packed) H locs → j91_23 x2_22 = some res → W p l e (rmK 1 21) s m ([.ref a_this, .int x1] : List Value).toArray below meth c H locs 0 0 (MQ below (QG D (tyL cB cI cZ) A (fun res : Int32 => some (.int res)) (fun res : Int32 => (wX3_extremeRun cB cI cZ a_this a_packed v_size v_pressed v_packed)) res) ([.ref a_this, .int x1] : List Value).toArray s 0 0 A) (F0 m 91 ls []) := by
                  intro x2_22 ls H locs hl hw h
                  have h := k1_at ej91_23 h
                  refine lv_iconst (pc := 91) (v := 0) hx hb dX3_extremeRun_91 (by decide) ?_
                  refine lv_istore_n (pc := 92) (lv' := [(3, .int 0), (6, .int x6_12), (5, .int r_6), (4, .int x4_1), (2, .int x2_22), (0, .ref a_this), (1, .int x1)]) hx hb dX3_extremeRun_92 rfl hl (by decide) rfl (fun ls hl => ?_)
                  exact J93_19 0 x2_22 ls _ _ (lv_sub hl [1, 2, 3, 0, 4, 5, 6] rfl) hw h
                refine lv_icmp_eq (pc := 64) (tgt := 91) hx hb dX3_extremeRun_64 (by decide) (fun hc_24 => ?_) (fun hc_24 => ?_)
                · have h := ift hc_24 h
                  exact J91_23 x2_14 ls _ _ (lv_sub hl [0, 1, 2, 4, 5, 6] rfl) hw h
                · have h := iff' hc_24 h
                  refine lv_iload_n (pc := 67) hx hb dX3_extremeRun_67 rfl (lv_at hl 4 rfl) ?_
                  refine lv_iconst (pc := 68) (v := (-1)) hx hb dX3_extremeRun_68 (by decide) ?_
                  obtain ⟨j89_25, ej89_25, h⟩ := jk_at h
                  have J89_25 : ∀  (ls : Array Slot) (H : Heap) (locs : List Loc), lv_has ls 7 [(6, .int x6_12), (5, .int r_6), (4, .int x4_1), (3, .int x3_13), (0, .ref a_this), (1, .int x1)] → Wd D A s (wX3_extremeRun cB cI cZ a_this a_packed v_size v_pressed v_packed) H locs → j89_25 = some res → W p l e (rmK 1 21) s m ([.ref a_this, .int x1] : List Value).toArray below meth c H locs 0 0 (MQ below (QG D (tyL cB cI cZ) A (fun res : Int32 => some (.int res)) (fun res : Int32 => (wX3_extremeRun cB cI cZ a_this a_packed v_size v_pressed v_packed)) res) ([.ref a_this, .int x1] : List Value).toArray s 0 0 A) (F0 m 89 ls []) := by
                    intro  ls H locs hl hw h
                    have h := k0_at ej89_25 h
                    refine lv_iload_n (pc := 89) hx hb dX3_extremeRun_89 rfl (lv_at hl 3 rfl) ?_
                    refine lv_istore_n (pc := 90) (lv' := [(2, .int x3_13), (6, .int x6_12), (5, .int r_6), (4, .int x4_1), (3, .int x3_13), (0, .ref a_this), (1, .int x1)]) hx hb dX3_extremeRun_90 rfl hl (by decide) rfl (fun ls hl => ?_)
                    exact J91_23 x3_13 ls _ _ (lv_sub hl [1, 2, 3, 0, 5, 6] rfl) hw h
                  refine lv_icmp_eq (pc := 69) (tgt := 89) hx hb dX3_extremeRun_69 (by decide) (fun hc_26 => ?_) (fun hc_26 => ?_)
                  · have h := ift hc_26 h
                    exact J89_25  ls _ _ (lv_sub hl [0, 1, 2, 3, 5, 6] rfl) hw h
                  · have h := iff' hc_26 h
                    refine lv_iload_n (pc := 72) hx hb dX3_extremeRun_72 rfl (lv_at hl 6 rfl) ?_
                    refine lv_if_eq (pc := 73) (tgt := 84) hx hb dX3_extremeRun_73 (by decide) (fun hc_27 => ?_) (fun hc_27 => ?_)
                    · have h := ift hc_27 h
                      refine lv_iload_n (pc := 84) hx hb dX3_extremeRun_84 rfl (lv_at hl 3 rfl) ?_
                      refine lv_iload_n (pc := 85) hx hb dX3_extremeRun_85 rfl (lv_at hl 4 rfl) ?_
                      refine lv_icmp_ge (pc := 86) (tgt := 91) hx hb dX3_extremeRun_86 (by decide) (fun hc_28 => ?_) (fun hc_28 => ?_)
                      · have h := ift hc_28 h
                        exact J91_23 x2_14 ls _ _ (lv_sub hl [0, 1, 2, 4, 5, 6] rfl) hw h
                      · have h := iff' hc_28 h
                        exact J89_25  ls _ _ (lv_sub hl [0, 1, 2, 3, 5, 6] rfl) hw h
                    · have h := iff' hc_27 h
                      refine lv_iload_n (pc := 76) hx hb dX3_extremeRun_76 rfl (lv_at hl 3 rfl) ?_
                      refine lv_iload_n (pc := 77) hx hb dX3_extremeRun_77 rfl (lv_at hl 4 rfl) ?_
                      refine lv_icmp_le (pc := 78) (tgt := 91) hx hb dX3_extremeRun_78 (by decide) (fun hc_29 => ?_) (fun hc_29 => ?_)
                      · have h := ift hc_29 h
                        exact J91_23 x2_14 ls _ _ (lv_sub hl [0, 1, 2, 4, 5, 6] rfl) hw h
                      · have h := iff' hc_29 h
                        refine lv_goto (pc := 81) (tgt := 89) hx hb dX3_extremeRun_81 (by decide) ?_
                        exact J89_25  ls _ _ (lv_sub hl [0, 1, 2, 3, 5, 6] rfl) hw h
              · have h := ift hc_21 h
                refine lv_iload_n (pc := 46) hx hb dX3_extremeRun_46 rfl (lv_at hl 3 rfl) ?_
                refine lv_iconst (pc := 47) (v := (-1)) hx hb dX3_extremeRun_47 (by decide) ?_
                obtain ⟨j58_31, ej58_31, h⟩ := jk_at h
                have J58_31 : ∀ (t_30 : Int32) (ls : Array Slot) (H : Heap) (locs : List Loc), lv_has ls 7 [(6, .int x6_12), (5, .int r_6), (4, .int x4_1), (2, .int x2_14), (0, .ref a_this), (1, .int x1)] → Wd D A s (wX3_extremeRun cB cI cZ a_this a_packed v_size v_pressed v_packed) H locs → j58_31 t_30 = some res → W p l e (rmK 1 21) s m ([.ref a_this, .int x1] : List Value).toArray below meth c H locs 0 0 (MQ below (QG D (tyL cB cI cZ) A (fun res : Int32 => some (.int res)) (fun res : Int32 => (wX3_extremeRun cB cI cZ a_this a_packed v_size v_pressed v_packed)) res) ([.ref a_this, .int x1] : List Value).toArray s 0 0 A) (F0 m 58 ls [.int t_30]) := by
                  intro t_30 ls H locs hl hw h
                  have h := k1_at ej58_31 h
                  refine lv_istore_n (pc := 58) (lv' := [(3, .int t_30), (6, .int x6_12), (5, .int r_6), (4, .int x4_1), (2, .int x2_14), (0, .ref a_this), (1, .int x1)]) hx hb dX3_extremeRun_58 rfl hl (by decide) rfl (fun ls hl => ?_)
                  refine lv_goto (pc := 59) (tgt := 93) hx hb dX3_extremeRun_59 (by decide) ?_
                  exact J93_19 t_30 x2_14 ls _ _ (lv_sub hl [1, 2, 3, 0, 4, 5, 6] rfl) hw h
                refine lv_icmp_ne (pc := 48) (tgt := 55) hx hb dX3_extremeRun_48 (by decide) (fun hc_32 => ?_) (fun hc_32 => ?_)
                · have h := iff' hc_32 h
                  refine lv_iload_n (pc := 55) hx hb dX3_extremeRun_55 rfl (lv_at hl 3 rfl) ?_
                  refine lv_iconst (pc := 56) (v := 1) hx hb dX3_extremeRun_56 (by decide) ?_
                  refine lv_iadd (pc := 57) hx hb dX3_extremeRun_57 ?_
                  exact J58_31 (x3_13 + (1 : Int32)) ls _ _ (lv_sub hl [0, 1, 2, 4, 5, 6] rfl) hw h
                · have h := ift hc_32 h
                  refine lv_iconst (pc := 51) (v := (-1)) hx hb dX3_extremeRun_51 (by decide) ?_
                  refine lv_goto (pc := 52) (tgt := 58) hx hb dX3_extremeRun_52 (by decide) ?_
                  exact J58_31 (-1) ls _ _ (lv_sub hl [0, 1, 2, 4, 5, 6] rfl) hw h
        exact Lih31_15 FU 31 x3_2 x2_3 ls _ _ (lv_sub hl [0, 1, 2, 3, 4, 5, 6] rfl) hw h
  exact Lih7_4 FU 0 (-1) (-1) ls _ _ (lv_sub hl [0, 1, 2, 3, 4] rfl) hw h
def wX3_signStands (cB cI cZ : ClassId) (a_this : Nat) (a_packed : Nat) (v_size : Int32) (v_pressed : Int32) (v_packed : Nat → Int32) : va_W := [oX3 a_this a_packed v_size v_pressed, (a_packed, .inl (cI, 11250, .inl v_packed))]
def fX3_signStands (v_size : Int32) (v_packed : Nat → Int32) (x1 : Int32) : Option (Int32) := if x1 < 0 then some 0 else if (v_size - (24 : Int32)) < x1 then some 0 else ob1 (fX3_peek v_packed x1) fun r_3 => if (UInt32.toInt32 (Int32.toUInt32 r_3 >>> (Int32.toUInt32 8 &&& Int32.toUInt32 31))) = (8392706 : Int32) then some 1 else some 0
set_option maxHeartbeats 4000000 in
set_option maxRecDepth 100000 in
theorem ct_X3_signStands (l : Launch) (D : va_G) (cB cI cZ : ClassId) (tw : Nat) (a_this : Nat) (a_packed : Nat) (v_size : Int32) (v_pressed : Int32) (v_packed : Nat → Int32) (x1 : Int32) (res : Int32) (h : fX3_signStands v_size v_packed x1 = some res) : Ctr l yX3_signStands cX3_signStands 2 (some .boolean) (rmK 2 44) D (tyL cB cI cZ) tw [.ref a_this, .int x1] (wX3_signStands cB cI cZ a_this a_packed v_size v_pressed v_packed) (fun res : Int32 => some (.int res)) (fun res : Int32 => (wX3_signStands cB cI cZ a_this a_packed v_size v_pressed v_packed)) res := by
  refine ctr_of RX3 (by decide) rfl (Nat.le_of_ble_eq_true rfl) ?_
  intro p e s m below meth c A C hw ls hl
  have hx := C.1
  have hb := C.2.1
  have hl : lv_has ls 2 [(0, .ref a_this), (1, .int x1)] := hl
  unfold fX3_signStands at h
  refine lv_iload_n (pc := 0) hx hb dX3_signStands_0 rfl (lv_at hl 1 rfl) ?_
  refine lv_if_lt (pc := 1) (tgt := 32) hx hb dX3_signStands_1 (by decide) (fun hc_1 => ?_) (fun hc_1 => ?_)
  · have h := ift hc_1 h
    refine lv_iconst (pc := 32) (v := 0) hx hb dX3_signStands_32 (by decide) ?_
    exact x_zret (pc := 33) (v := 0) C (Option.some.inj h) rfl rfl hw dX3_signStands_33
  · have h := iff' hc_1 h
    refine lv_iload_n (pc := 4) hx hb dX3_signStands_4 rfl (lv_at hl 1 rfl) ?_
    refine lv_aload_n (pc := 5) hx hb dX3_signStands_5 rfl (lv_at hl 0 rfl) ?_
    refine gf_X3_21 (pc := 6) C hw 0 rfl rfl dX3_signStands_6 ?_
    refine lv_bipush (pc := 9) (v := 24) hx hb dX3_signStands_9 (by decide) ?_
    refine lv_isub (pc := 11) hx hb dX3_signStands_11 ?_
    refine lv_icmp_gt (pc := 12) (tgt := 32) hx hb dX3_signStands_12 (by decide) (fun hc_2 => ?_) (fun hc_2 => ?_)
    · have h := ift hc_2 h
      refine lv_iconst (pc := 32) (v := 0) hx hb dX3_signStands_32 (by decide) ?_
      exact x_zret (pc := 33) (v := 0) C (Option.some.inj h) rfl rfl hw dX3_signStands_33
    · have h := iff' hc_2 h
      refine lv_aload_n (pc := 15) hx hb dX3_signStands_15 rfl (lv_at hl 0 rfl) ?_
      refine lv_iload_n (pc := 16) hx hb dX3_signStands_16 rfl (lv_at hl 1 rfl) ?_
      obtain ⟨r_3, hq_4, h⟩ := ob1_at h
      refine x_callV (pc := 17) (rest := []) (stk := [.int r_3]) (wX3_signStands cB cI cZ a_this a_packed v_size v_pressed v_packed) C hw (ct_X3_peek l D cB cI cZ tw a_this a_packed v_size v_pressed v_packed x1 r_3 hq_4) cal_X3_peek tw_608 (q0 := 0) rfl rfl [0, 1] [] 2 [] rfl rfl rfl rfl rfl rfl rfl rfl rfl rfl rfl (Nat.le_of_ble_eq_true rfl) hl.1 ⟨Nat.le_of_ble_eq_true rfl, Nat.le_of_ble_eq_true rfl⟩ ⟨Nat.zero_le _, Nat.zero_le _⟩ dX3_signStands_17 (fun H locs hw => ?_)
      refine lv_bipush (pc := 20) (v := 8) hx hb dX3_signStands_20 (by decide) ?_
      refine lv_iushr (pc := 22) hx hb dX3_signStands_22 rfl ?_
      refine lv_ldc (pc := 23) (own := RX3) (v := 8392706) hx hb C.2.2.2.1 (C.2.2.2.2.1 _ tw_653) dX3_signStands_23 ?_
      refine lv_icmp_ne (pc := 25) (tgt := 32) hx hb dX3_signStands_25 (by decide) (fun hc_5 => ?_) (fun hc_5 => ?_)
      · have h := iff' hc_5 h
        refine lv_iconst (pc := 32) (v := 0) hx hb dX3_signStands_32 (by decide) ?_
        exact x_zret (pc := 33) (v := 0) C (Option.some.inj h) rfl rfl hw dX3_signStands_33
      · have h := ift hc_5 h
        refine lv_iconst (pc := 28) (v := 1) hx hb dX3_signStands_28 (by decide) ?_
        refine lv_goto (pc := 29) (tgt := 33) hx hb dX3_signStands_29 (by decide) ?_
        exact x_zret (pc := 33) (v := 1) C (Option.some.inj h) rfl rfl hw dX3_signStands_33
def wX3_nextSign (cB cI cZ : ClassId) (a_this : Nat) (a_packed : Nat) (v_size : Int32) (v_pressed : Int32) (v_packed : Nat → Int32) : va_W := [oX3 a_this a_packed v_size v_pressed, (a_packed, .inl (cI, 11250, .inl v_packed))]
def fX3_nextSign_L41 (j87_12 : Option (Int32)) (x3_11 : Int32) (v_size : Int32) (v_packed : Nat → Int32) (x2_2 : Int32) : Nat → Int32 → Option (Int32)
  | 0, _ => none
  | F41_15 + 1, x4_14 => if (32 : Int32) ≤ x4_14 then j87_12 else if x3_11 = 0 then j87_12 else jk (nm (x4_14 + 1 : Int32) fun x4_19 => fX3_nextSign_L41 j87_12 x3_11 v_size v_packed x2_2 F41_15 x4_19) fun j81_18 => if ((UInt32.toInt32 (Int32.toUInt32 x3_11 >>> (Int32.toUInt32 ((31 : Int32) - x4_14) &&& Int32.toUInt32 31))) &&& (1 : Int32)) = (1 : Int32) then ob1 (fX3_signStands v_size v_packed (x2_2 + x4_14)) fun r_21 => if r_21 = 0 then j81_18 else some (x2_2 + x4_14) else j81_18
def fX3_nextSign_L6 (v_size : Int32) (v_packed : Nat → Int32) : Nat → Int32 → Option (Int32)
  | 0, _ => none
  | F6_3 + 1, x2_2 => if v_size ≤ x2_2 then some (-1) else ob1 (fX3_peek v_packed x2_2) fun r_5 => ob1 (fX3_peek v_packed (x2_2 + (11 : Int32))) fun r_7 => ob1 (fX3_peek v_packed (x2_2 + (22 : Int32))) fun r_9 => nm (((r_5 &&& r_7) &&& r_9) : Int32) fun x3_11 => jk (nm (x2_2 + 32 : Int32) fun x2_13 => fX3_nextSign_L6 v_size v_packed F6_3 x2_13) fun j87_12 => fX3_nextSign_L41 j87_12 x3_11 v_size v_packed x2_2 FU 0
def fX3_nextSign (v_size : Int32) (v_packed : Nat → Int32) (x1 : Int32) : Option (Int32) := nm ((if x1 < (0 : Int32) then (0 : Int32) else x1 : Int32) : Int32) fun x2_1 => fX3_nextSign_L6 v_size v_packed FU x2_1
set_option maxHeartbeats 4000000 in
set_option maxRecDepth 100000 in
theorem ct_X3_nextSign (l : Launch) (D : va_G) (cB cI cZ : ClassId) (tw : Nat) (a_this : Nat) (a_packed : Nat) (v_size : Int32) (v_pressed : Int32) (v_packed : Nat → Int32) (x1 : Int32) (res : Int32) (h : fX3_nextSign v_size v_packed x1 = some res) : Ctr l yX3_nextSign cX3_nextSign 5 (some .int) (rmK 3 65) D (tyL cB cI cZ) tw [.ref a_this, .int x1] (wX3_nextSign cB cI cZ a_this a_packed v_size v_pressed v_packed) (fun res : Int32 => some (.int res)) (fun res : Int32 => (wX3_nextSign cB cI cZ a_this a_packed v_size v_pressed v_packed)) res := by
  refine ctr_of RX3 (by decide) rfl (Nat.le_of_ble_eq_true rfl) ?_
  intro p e s m below meth c A C hw ls hl
  have hx := C.1
  have hb := C.2.1
  have hl : lv_has ls 5 [(0, .ref a_this), (1, .int x1)] := hl
  unfold fX3_nextSign at h
  refine lv_iload_n (pc := 0) hx hb dX3_nextSign_0 rfl (lv_at hl 1 rfl) ?_
  refine lv_iconst (pc := 1) (v := 0) hx hb dX3_nextSign_1 (by decide) ?_
  refine va_mmax (pc := 2) (own := RX3) hx hb (C.2.2.1.trans hl.1.symm) C.2.2.2.1 (C.2.2.2.2.1 _ tw_646) (C.2.2.2.2.1 _ tw_647) (C.2.2.2.2.1 _ tw_14) (C.2.2.2.2.1 _ tw_648) (Nat.le_of_ble_eq_true rfl) (Nat.le_of_ble_eq_true rfl) (Nat.zero_le _) (Nat.zero_le _) dX3_nextSign_2 ?_
  refine lv_topi (pc := 5) (fun x2_1 ex2_1 => ?_)
  have h := nm_at ex2_1 h
  refine lv_istore_n (pc := 5) (lv' := [(2, .int x2_1), (0, .ref a_this), (1, .int x1)]) hx hb dX3_nextSign_5 rfl hl (by decide) rfl (fun ls hl => ?_)
  have Lih6_3 : ∀ (F : Nat) (x2_2 : Int32) (ls : Array Slot) (H : Heap) (locs : List Loc), lv_has ls 5 [(2, .int x2_2), (0, .ref a_this)] → Wd D A s (wX3_nextSign cB cI cZ a_this a_packed v_size v_pressed v_packed) H locs → fX3_nextSign_L6 v_size v_packed F x2_2 = some res → W p l e (rmK 3 65) s m ([.ref a_this, .int x1] : List Value).toArray below meth c H locs 0 0 (MQ below (QG D (tyL cB cI cZ) A (fun res : Int32 => some (.int res)) (fun res : Int32 => (wX3_nextSign cB cI cZ a_this a_packed v_size v_pressed v_packed)) res) ([.ref a_this, .int x1] : List Value).toArray s 0 0 A) (F0 m 6 ls []) := by
    intro F
    induction F with
    | zero => intro x2_2 ls H locs hl hw h; rw [fX3_nextSign_L6.eq_1] at h; cases h
    | succ F6_3 ih6_3 =>
      intro x2_2 ls H locs hl hw h
      rw [fX3_nextSign_L6.eq_2] at h
      refine lv_iload_n (pc := 6) hx hb dX3_nextSign_6 rfl (lv_at hl 0 rfl) ?_
      refine lv_aload_n (pc := 7) hx hb dX3_nextSign_7 rfl (lv_at hl 1 rfl) ?_
      refine gf_X3_21 (pc := 8) C hw 0 rfl rfl dX3_nextSign_8 ?_
      refine lv_icmp_ge (pc := 11) (tgt := 93) hx hb dX3_nextSign_11 (by decide) (fun hc_4 => ?_) (fun hc_4 => ?_)
      · have h := ift hc_4 h
        refine lv_iconst (pc := 93) (v := (-1)) hx hb dX3_nextSign_93 (by decide) ?_
        exact x_iret (pc := 94) (v := (-1)) C (Option.some.inj h) rfl hw dX3_nextSign_94
      · have h := iff' hc_4 h
        refine lv_aload_n (pc := 14) hx hb dX3_nextSign_14 rfl (lv_at hl 1 rfl) ?_
        refine lv_iload_n (pc := 15) hx hb dX3_nextSign_15 rfl (lv_at hl 0 rfl) ?_
        obtain ⟨r_5, hq_6, h⟩ := ob1_at h
        refine x_callV (pc := 16) (rest := []) (stk := [.int r_5]) (wX3_nextSign cB cI cZ a_this a_packed v_size v_pressed v_packed) C hw (ct_X3_peek l D cB cI cZ tw a_this a_packed v_size v_pressed v_packed x2_2 r_5 hq_6) cal_X3_peek tw_608 (q0 := 0) rfl rfl [0, 1] [] 2 [] rfl rfl rfl rfl rfl rfl rfl rfl rfl rfl rfl (Nat.le_of_ble_eq_true rfl) hl.1 ⟨Nat.le_of_ble_eq_true rfl, Nat.le_of_ble_eq_true rfl⟩ ⟨Nat.zero_le _, Nat.zero_le _⟩ dX3_nextSign_16 (fun H locs hw => ?_)
        refine lv_aload_n (pc := 19) hx hb dX3_nextSign_19 rfl (lv_at hl 1 rfl) ?_
        refine lv_iload_n (pc := 20) hx hb dX3_nextSign_20 rfl (lv_at hl 0 rfl) ?_
        refine lv_bipush (pc := 21) (v := 11) hx hb dX3_nextSign_21 (by decide) ?_
        refine lv_iadd (pc := 23) hx hb dX3_nextSign_23 ?_
        obtain ⟨r_7, hq_8, h⟩ := ob1_at h
        refine x_callV (pc := 24) (rest := [.int r_5]) (stk := [.int r_7, .int r_5]) (wX3_nextSign cB cI cZ a_this a_packed v_size v_pressed v_packed) C hw (ct_X3_peek l D cB cI cZ tw a_this a_packed v_size v_pressed v_packed (x2_2 + (11 : Int32)) r_7 hq_8) cal_X3_peek tw_608 (q0 := 0) rfl rfl [0, 1] [] 2 [] rfl rfl rfl rfl rfl rfl rfl rfl rfl rfl rfl (Nat.le_of_ble_eq_true rfl) hl.1 ⟨Nat.le_of_ble_eq_true rfl, Nat.le_of_ble_eq_true rfl⟩ ⟨Nat.zero_le _, Nat.zero_le _⟩ dX3_nextSign_24 (fun H locs hw => ?_)
        refine lv_iand (pc := 27) hx hb dX3_nextSign_27 ?_
        refine lv_aload_n (pc := 28) hx hb dX3_nextSign_28 rfl (lv_at hl 1 rfl) ?_
        refine lv_iload_n (pc := 29) hx hb dX3_nextSign_29 rfl (lv_at hl 0 rfl) ?_
        refine lv_bipush (pc := 30) (v := 22) hx hb dX3_nextSign_30 (by decide) ?_
        refine lv_iadd (pc := 32) hx hb dX3_nextSign_32 ?_
        obtain ⟨r_9, hq_10, h⟩ := ob1_at h
        refine x_callV (pc := 33) (rest := [.int (r_5 &&& r_7)]) (stk := [.int r_9, .int (r_5 &&& r_7)]) (wX3_nextSign cB cI cZ a_this a_packed v_size v_pressed v_packed) C hw (ct_X3_peek l D cB cI cZ tw a_this a_packed v_size v_pressed v_packed (x2_2 + (22 : Int32)) r_9 hq_10) cal_X3_peek tw_608 (q0 := 0) rfl rfl [0, 1] [] 2 [] rfl rfl rfl rfl rfl rfl rfl rfl rfl rfl rfl (Nat.le_of_ble_eq_true rfl) hl.1 ⟨Nat.le_of_ble_eq_true rfl, Nat.le_of_ble_eq_true rfl⟩ ⟨Nat.zero_le _, Nat.zero_le _⟩ dX3_nextSign_33 (fun H locs hw => ?_)
        refine lv_iand (pc := 36) hx hb dX3_nextSign_36 ?_
        refine lv_topi (pc := 37) (fun x3_11 ex3_11 => ?_)
        have h := nm_at ex3_11 h
        refine lv_istore_n (pc := 37) (lv' := [(3, .int x3_11), (2, .int x2_2), (0, .ref a_this)]) hx hb dX3_nextSign_37 rfl hl (by decide) rfl (fun ls hl => ?_)
        refine lv_iconst (pc := 38) (v := 0) hx hb dX3_nextSign_38 (by decide) ?_
        refine lv_istore (pc := 39) (lv' := [(4, .int 0), (3, .int x3_11), (2, .int x2_2), (0, .ref a_this)]) hx hb dX3_nextSign_39 hl (by decide) rfl (fun ls hl => ?_)
        obtain ⟨j87_12, ej87_12, h⟩ := jk_at h
        have J87_12 : ∀  (ls : Array Slot) (H : Heap) (locs : List Loc), lv_has ls 5 [(2, .int x2_2), (0, .ref a_this)] → Wd D A s (wX3_nextSign cB cI cZ a_this a_packed v_size v_pressed v_packed) H locs → j87_12 = some res → W p l e (rmK 3 65) s m ([.ref a_this, .int x1] : List Value).toArray below meth c H locs 0 0 (MQ below (QG D (tyL cB cI cZ) A (fun res : Int32 => some (.int res)) (fun res : Int32 => (wX3_nextSign cB cI cZ a_this a_packed v_size v_pressed v_packed)) res) ([.ref a_this, .int x1] : List Value).toArray s 0 0 A) (F0 m 87 ls []) := by
          intro  ls H locs hl hw h
          have h := k0_at ej87_12 h
          obtain ⟨x2_13, ex2_13⟩ : ∃ y : Int32, y = x2_2 + 32 := ⟨_, rfl⟩
          have h := nm_at ex2_13 h
          refine lv_iinc (pc := 87) (v := x2_13) (lv' := [(2, .int x2_13), (0, .ref a_this)]) hx hb dX3_nextSign_87 hl (k := 0) rfl (by rw [ex2_13]; rfl) (by decide) rfl (fun ls hl => ?_)
          refine lv_goto (pc := 90) (tgt := 6) hx hb dX3_nextSign_90 (by decide) ?_
          exact ih6_3 x2_13 ls _ _ (lv_sub hl [0, 1] rfl) hw h
        have Lih41_15 : ∀ (F : Nat) (x4_14 : Int32) (ls : Array Slot) (H : Heap) (locs : List Loc), lv_has ls 5 [(4, .int x4_14), (3, .int x3_11), (2, .int x2_2), (0, .ref a_this)] → Wd D A s (wX3_nextSign cB cI cZ a_this a_packed v_size v_pressed v_packed) H locs → fX3_nextSign_L41 j87_12 x3_11 v_size v_packed x2_2 F x4_14 = some res → W p l e (rmK 3 65) s m ([.ref a_this, .int x1] : List Value).toArray below meth c H locs 0 0 (MQ below (QG D (tyL cB cI cZ) A (fun res : Int32 => some (.int res)) (fun res : Int32 => (wX3_nextSign cB cI cZ a_this a_packed v_size v_pressed v_packed)) res) ([.ref a_this, .int x1] : List Value).toArray s 0 0 A) (F0 m 41 ls []) := by
          intro F
          induction F with
          | zero => intro x4_14 ls H locs hl hw h; rw [fX3_nextSign_L41.eq_1] at h; cases h
          | succ F41_15 ih41_15 =>
            intro x4_14 ls H locs hl hw h
            rw [fX3_nextSign_L41.eq_2] at h
            refine lv_iload (pc := 41) hx hb dX3_nextSign_41 (lv_at hl 0 rfl) ?_
            refine lv_bipush (pc := 43) (v := 32) hx hb dX3_nextSign_43 (by decide) ?_
            refine lv_icmp_ge (pc := 45) (tgt := 87) hx hb dX3_nextSign_45 (by decide) (fun hc_16 => ?_) (fun hc_16 => ?_)
            · have h := ift hc_16 h
              exact J87_12  ls _ _ (lv_sub hl [2, 3] rfl) hw h
            · have h := iff' hc_16 h
              refine lv_iload_n (pc := 48) hx hb dX3_nextSign_48 rfl (lv_at hl 1 rfl) ?_
              refine lv_if_eq (pc := 49) (tgt := 87) hx hb dX3_nextSign_49 (by decide) (fun hc_17 => ?_) (fun hc_17 => ?_)
              · have h := ift hc_17 h
                exact J87_12  ls _ _ (lv_sub hl [2, 3] rfl) hw h
              · have h := iff' hc_17 h
                refine lv_iload_n (pc := 52) hx hb dX3_nextSign_52 rfl (lv_at hl 1 rfl) ?_
                refine lv_bipush (pc := 53) (v := 31) hx hb dX3_nextSign_53 (by decide) ?_
                refine lv_iload (pc := 55) hx hb dX3_nextSign_55 (lv_at hl 0 rfl) ?_
                refine lv_isub (pc := 57) hx hb dX3_nextSign_57 ?_
                refine lv_iushr (pc := 58) hx hb dX3_nextSign_58 rfl ?_
                refine lv_iconst (pc := 59) (v := 1) hx hb dX3_nextSign_59 (by decide) ?_
                refine lv_iand (pc := 60) hx hb dX3_nextSign_60 ?_
                refine lv_iconst (pc := 61) (v := 1) hx hb dX3_nextSign_61 (by decide) ?_
                obtain ⟨j81_18, ej81_18, h⟩ := jk_at h
                have J81_18 : ∀  (ls : Array Slot) (H : Heap) (locs : List Loc), lv_has ls 5 [(4, .int x4_14), (3, .int x3_11), (2, .int x2_2), (0, .ref a_this)] → Wd D A s (wX3_nextSign cB cI cZ a_this a_packed v_size v_pressed v_packed) H locs → j81_18 = some res → W p l e (rmK 3 65) s m ([.ref a_this, .int x1] : List Value).toArray below meth c H locs 0 0 (MQ below (QG D (tyL cB cI cZ) A (fun res : Int32 => some (.int res)) (fun res : Int32 => (wX3_nextSign cB cI cZ a_this a_packed v_size v_pressed v_packed)) res) ([.ref a_this, .int x1] : List Value).toArray s 0 0 A) (F0 m 81 ls []) := by
                  intro  ls H locs hl hw h
                  have h := k0_at ej81_18 h
                  obtain ⟨x4_19, ex4_19⟩ : ∃ y : Int32, y = x4_14 + 1 := ⟨_, rfl⟩
                  have h := nm_at ex4_19 h
                  refine lv_iinc (pc := 81) (v := x4_19) (lv' := [(4, .int x4_19), (3, .int x3_11), (2, .int x2_2), (0, .ref a_this)]) hx hb dX3_nextSign_81 hl (k := 0) rfl (by rw [ex4_19]; rfl) (by decide) rfl (fun ls hl => ?_)
                  refine lv_goto (pc := 84) (tgt := 41) hx hb dX3_nextSign_84 (by decide) ?_
                  exact ih41_15 x4_19 ls _ _ (lv_sub hl [0, 1, 2, 3] rfl) hw h
                refine lv_icmp_ne (pc := 62) (tgt := 81) hx hb dX3_nextSign_62 (by decide) (fun hc_20 => ?_) (fun hc_20 => ?_)
                · have h := iff' hc_20 h
                  exact J81_18  ls _ _ (lv_sub hl [0, 1, 2, 3] rfl) hw h
                · have h := ift hc_20 h
                  refine lv_aload_n (pc := 65) hx hb dX3_nextSign_65 rfl (lv_at hl 3 rfl) ?_
                  refine lv_iload_n (pc := 66) hx hb dX3_nextSign_66 rfl (lv_at hl 2 rfl) ?_
                  refine lv_iload (pc := 67) hx hb dX3_nextSign_67 (lv_at hl 0 rfl) ?_
                  refine lv_iadd (pc := 69) hx hb dX3_nextSign_69 ?_
                  obtain ⟨r_21, hq_22, h⟩ := ob1_at h
                  refine x_callV (pc := 70) (rest := []) (stk := [.int r_21]) (wX3_nextSign cB cI cZ a_this a_packed v_size v_pressed v_packed) C hw (ct_X3_signStands l D cB cI cZ tw a_this a_packed v_size v_pressed v_packed (x2_2 + x4_14) r_21 hq_22) cal_X3_signStands tw_649 (q0 := 0) rfl rfl [0, 1] [] 2 [] rfl rfl rfl rfl rfl rfl rfl rfl rfl rfl rfl (Nat.le_of_ble_eq_true rfl) hl.1 ⟨Nat.le_of_ble_eq_true rfl, Nat.le_of_ble_eq_true rfl⟩ ⟨Nat.zero_le _, Nat.zero_le _⟩ dX3_nextSign_70 (fun H locs hw => ?_)
                  refine lv_if_eq (pc := 73) (tgt := 81) hx hb dX3_nextSign_73 (by decide) (fun hc_23 => ?_) (fun hc_23 => ?_)
                  · have h := ift hc_23 h
                    exact J81_18  ls _ _ (lv_sub hl [0, 1, 2, 3] rfl) hw h
                  · have h := iff' hc_23 h
                    refine lv_iload_n (pc := 76) hx hb dX3_nextSign_76 rfl (lv_at hl 2 rfl) ?_
                    refine lv_iload (pc := 77) hx hb dX3_nextSign_77 (lv_at hl 0 rfl) ?_
                    refine lv_iadd (pc := 79) hx hb dX3_nextSign_79 ?_
                    exact x_iret (pc := 80) (v := (x2_2 + x4_14)) C (Option.some.inj h) rfl hw dX3_nextSign_80
        exact Lih41_15 FU 0 ls _ _ (lv_sub hl [0, 1, 2, 3] rfl) hw h
  exact Lih6_3 FU x2_1 ls _ _ (lv_sub hl [0, 1] rfl) hw h
def wX3_countSigns (cB cI cZ : ClassId) (a_this : Nat) (a_packed : Nat) (v_size : Int32) (v_pressed : Int32) (v_packed : Nat → Int32) : va_W := [oX3 a_this a_packed v_size v_pressed, (a_packed, .inl (cI, 11250, .inl v_packed))]
def fX3_countSigns_L8 (v_size : Int32) (v_packed : Nat → Int32) : Nat → Int32 → Int32 → Option (Int32)
  | 0, _, _ => none
  | F8_5 + 1, x2_3, x1_4 => if x1_4 = (-1 : Int32) then some x2_3 else if v_size ≤ x2_3 then some x2_3 else nm (x2_3 + 1 : Int32) fun x2_8 => ob1 (fX3_nextSign v_size v_packed (x1_4 + (1 : Int32))) fun r_9 => fX3_countSigns_L8 v_size v_packed F8_5 x2_8 r_9
def fX3_countSigns (v_size : Int32) (v_packed : Nat → Int32) : Option (Int32) := ob1 (fX3_nextSign v_size v_packed 0) fun r_1 => fX3_countSigns_L8 v_size v_packed FU 0 r_1
set_option maxHeartbeats 4000000 in
set_option maxRecDepth 100000 in
theorem ct_X3_countSigns (l : Launch) (D : va_G) (cB cI cZ : ClassId) (tw : Nat) (a_this : Nat) (a_packed : Nat) (v_size : Int32) (v_pressed : Int32) (v_packed : Nat → Int32) (res : Int32) (h : fX3_countSigns v_size v_packed = some res) : Ctr l yX3_countSigns cX3_countSigns 3 (some .int) (rmK 4 89) D (tyL cB cI cZ) tw [.ref a_this] (wX3_countSigns cB cI cZ a_this a_packed v_size v_pressed v_packed) (fun res : Int32 => some (.int res)) (fun res : Int32 => (wX3_countSigns cB cI cZ a_this a_packed v_size v_pressed v_packed)) res := by
  refine ctr_of RX3 (by decide) rfl (Nat.le_of_ble_eq_true rfl) ?_
  intro p e s m below meth c A C hw ls hl
  have hx := C.1
  have hb := C.2.1
  have hl : lv_has ls 3 [(0, .ref a_this)] := hl
  unfold fX3_countSigns at h
  refine lv_aload_n (pc := 0) hx hb dX3_countSigns_0 rfl (lv_at hl 0 rfl) ?_
  refine lv_iconst (pc := 1) (v := 0) hx hb dX3_countSigns_1 (by decide) ?_
  obtain ⟨r_1, hq_2, h⟩ := ob1_at h
  refine x_callV (pc := 2) (rest := []) (stk := [.int r_1]) (wX3_countSigns cB cI cZ a_this a_packed v_size v_pressed v_packed) C hw (ct_X3_nextSign l D cB cI cZ tw a_this a_packed v_size v_pressed v_packed 0 r_1 hq_2) cal_X3_nextSign tw_642 (q0 := 0) rfl rfl [0, 1] [] 2 [] rfl rfl rfl rfl rfl rfl rfl rfl rfl rfl rfl (Nat.le_of_ble_eq_true rfl) hl.1 ⟨Nat.le_of_ble_eq_true rfl, Nat.le_of_ble_eq_true rfl⟩ ⟨Nat.zero_le _, Nat.zero_le _⟩ dX3_countSigns_2 (fun H locs hw => ?_)
  refine lv_istore_n (pc := 5) (lv' := [(1, .int r_1), (0, .ref a_this)]) hx hb dX3_countSigns_5 rfl hl (by decide) rfl (fun ls hl => ?_)
  refine lv_iconst (pc := 6) (v := 0) hx hb dX3_countSigns_6 (by decide) ?_
  refine lv_istore_n (pc := 7) (lv' := [(2, .int 0), (1, .int r_1), (0, .ref a_this)]) hx hb dX3_countSigns_7 rfl hl (by decide) rfl (fun ls hl => ?_)
  have Lih8_5 : ∀ (F : Nat) (x2_3 : Int32) (x1_4 : Int32) (ls : Array Slot) (H : Heap) (locs : List Loc), lv_has ls 3 [(2, .int x2_3), (1, .int x1_4), (0, .ref a_this)] → Wd D A s (wX3_countSigns cB cI cZ a_this a_packed v_size v_pressed v_packed) H locs → fX3_countSigns_L8 v_size v_packed F x2_3 x1_4 = some res → W p l e (rmK 4 89) s m ([.ref a_this] : List Value).toArray below meth c H locs 0 0 (MQ below (QG D (tyL cB cI cZ) A (fun res : Int32 => some (.int res)) (fun res : Int32 => (wX3_countSigns cB cI cZ a_this a_packed v_size v_pressed v_packed)) res) ([.ref a_this] : List Value).toArray s 0 0 A) (F0 m 8 ls []) := by
    intro F
    induction F with
    | zero => intro x2_3 x1_4 ls H locs hl hw h; rw [fX3_countSigns_L8.eq_1] at h; cases h
    | succ F8_5 ih8_5 =>
      intro x2_3 x1_4 ls H locs hl hw h
      rw [fX3_countSigns_L8.eq_2] at h
      refine lv_iload_n (pc := 8) hx hb dX3_countSigns_8 rfl (lv_at hl 1 rfl) ?_
      refine lv_iconst (pc := 9) (v := (-1)) hx hb dX3_countSigns_9 (by decide) ?_
      refine lv_icmp_eq (pc := 10) (tgt := 35) hx hb dX3_countSigns_10 (by decide) (fun hc_6 => ?_) (fun hc_6 => ?_)
      · have h := ift hc_6 h
        refine lv_iload_n (pc := 35) hx hb dX3_countSigns_35 rfl (lv_at hl 0 rfl) ?_
        exact x_iret (pc := 36) (v := x2_3) C (Option.some.inj h) rfl hw dX3_countSigns_36
      · have h := iff' hc_6 h
        refine lv_iload_n (pc := 13) hx hb dX3_countSigns_13 rfl (lv_at hl 0 rfl) ?_
        refine lv_aload_n (pc := 14) hx hb dX3_countSigns_14 rfl (lv_at hl 2 rfl) ?_
        refine gf_X3_21 (pc := 15) C hw 0 rfl rfl dX3_countSigns_15 ?_
        refine lv_icmp_ge (pc := 18) (tgt := 35) hx hb dX3_countSigns_18 (by decide) (fun hc_7 => ?_) (fun hc_7 => ?_)
        · have h := ift hc_7 h
          refine lv_iload_n (pc := 35) hx hb dX3_countSigns_35 rfl (lv_at hl 0 rfl) ?_
          exact x_iret (pc := 36) (v := x2_3) C (Option.some.inj h) rfl hw dX3_countSigns_36
        · have h := iff' hc_7 h
          obtain ⟨x2_8, ex2_8⟩ : ∃ y : Int32, y = x2_3 + 1 := ⟨_, rfl⟩
          have h := nm_at ex2_8 h
          refine lv_iinc (pc := 21) (v := x2_8) (lv' := [(2, .int x2_8), (1, .int x1_4), (0, .ref a_this)]) hx hb dX3_countSigns_21 hl (k := 0) rfl (by rw [ex2_8]; rfl) (by decide) rfl (fun ls hl => ?_)
          refine lv_aload_n (pc := 24) hx hb dX3_countSigns_24 rfl (lv_at hl 2 rfl) ?_
          refine lv_iload_n (pc := 25) hx hb dX3_countSigns_25 rfl (lv_at hl 1 rfl) ?_
          refine lv_iconst (pc := 26) (v := 1) hx hb dX3_countSigns_26 (by decide) ?_
          refine lv_iadd (pc := 27) hx hb dX3_countSigns_27 ?_
          obtain ⟨r_9, hq_10, h⟩ := ob1_at h
          refine x_callV (pc := 28) (rest := []) (stk := [.int r_9]) (wX3_countSigns cB cI cZ a_this a_packed v_size v_pressed v_packed) C hw (ct_X3_nextSign l D cB cI cZ tw a_this a_packed v_size v_pressed v_packed (x1_4 + (1 : Int32)) r_9 hq_10) cal_X3_nextSign tw_642 (q0 := 0) rfl rfl [0, 1] [] 2 [] rfl rfl rfl rfl rfl rfl rfl rfl rfl rfl rfl (Nat.le_of_ble_eq_true rfl) hl.1 ⟨Nat.le_of_ble_eq_true rfl, Nat.le_of_ble_eq_true rfl⟩ ⟨Nat.zero_le _, Nat.zero_le _⟩ dX3_countSigns_28 (fun H locs hw => ?_)
          refine lv_istore_n (pc := 31) (lv' := [(1, .int r_9), (2, .int x2_8), (0, .ref a_this)]) hx hb dX3_countSigns_31 rfl hl (by decide) rfl (fun ls hl => ?_)
          refine lv_goto (pc := 32) (tgt := 8) hx hb dX3_countSigns_32 (by decide) ?_
          exact ih8_5 x2_8 r_9 ls _ _ (lv_sub hl [1, 0, 2] rfl) hw h
  exact Lih8_5 FU 0 r_1 ls _ _ (lv_sub hl [0, 1, 2] rfl) hw h
def wX3_findSign (cB cI cZ : ClassId) (a_this : Nat) (a_packed : Nat) (v_size : Int32) (v_pressed : Int32) (v_packed : Nat → Int32) : va_W := [oX3 a_this a_packed v_size v_pressed, (a_packed, .inl (cI, 11250, .inl v_packed))]
def fX3_findSign_L16 (x1 : Int32) (v_size : Int32) (v_packed : Nat → Int32) : Nat → Int32 → Int32 → Option (Int32)
  | 0, _, _ => none
  | F16_5 + 1, x3_3, x2_4 => if x1 ≤ x3_3 then some x2_4 else if x2_4 = (-1 : Int32) then some x2_4 else ob1 (fX3_nextSign v_size v_packed (x2_4 + (1 : Int32))) fun r_8 => nm (x3_3 + 1 : Int32) fun x3_10 => fX3_findSign_L16 x1 v_size v_packed F16_5 x3_10 r_8
def fX3_findSign (v_size : Int32) (v_packed : Nat → Int32) (x1 : Int32) : Option (Int32) := jk (fun (t_1 : Int32) => fX3_findSign_L16 x1 v_size v_packed FU 0 t_1) fun j13_2 => if 0 ≤ x1 then ob1 (fX3_nextSign v_size v_packed 0) fun r_12 => j13_2 r_12 else j13_2 (-1)
set_option maxHeartbeats 4000000 in
set_option maxRecDepth 100000 in
theorem ct_X3_findSign (l : Launch) (D : va_G) (cB cI cZ : ClassId) (tw : Nat) (a_this : Nat) (a_packed : Nat) (v_size : Int32) (v_pressed : Int32) (v_packed : Nat → Int32) (x1 : Int32) (res : Int32) (h : fX3_findSign v_size v_packed x1 = some res) : Ctr l yX3_findSign cX3_findSign 4 (some .int) (rmK 4 89) D (tyL cB cI cZ) tw [.ref a_this, .int x1] (wX3_findSign cB cI cZ a_this a_packed v_size v_pressed v_packed) (fun res : Int32 => some (.int res)) (fun res : Int32 => (wX3_findSign cB cI cZ a_this a_packed v_size v_pressed v_packed)) res := by
  refine ctr_of RX3 (by decide) rfl (Nat.le_of_ble_eq_true rfl) ?_
  intro p e s m below meth c A C hw ls hl
  have hx := C.1
  have hb := C.2.1
  have hl : lv_has ls 4 [(0, .ref a_this), (1, .int x1)] := hl
  unfold fX3_findSign at h
  refine lv_iload_n (pc := 0) hx hb dX3_findSign_0 rfl (lv_at hl 1 rfl) ?_
  obtain ⟨j13_2, ej13_2, h⟩ := jk_at h
  have J13_2 : ∀ (t_1 : Int32) (ls : Array Slot) (H : Heap) (locs : List Loc), lv_has ls 4 [(0, .ref a_this), (1, .int x1)] → Wd D A s (wX3_findSign cB cI cZ a_this a_packed v_size v_pressed v_packed) H locs → j13_2 t_1 = some res → W p l e (rmK 4 89) s m ([.ref a_this, .int x1] : List Value).toArray below meth c H locs 0 0 (MQ below (QG D (tyL cB cI cZ) A (fun res : Int32 => some (.int res)) (fun res : Int32 => (wX3_findSign cB cI cZ a_this a_packed v_size v_pressed v_packed)) res) ([.ref a_this, .int x1] : List Value).toArray s 0 0 A) (F0 m 13 ls [.int t_1]) := by
    intro t_1 ls H locs hl hw h
    have h := k1_at ej13_2 h
    refine lv_istore_n (pc := 13) (lv' := [(2, .int t_1), (0, .ref a_this), (1, .int x1)]) hx hb dX3_findSign_13 rfl hl (by decide) rfl (fun ls hl => ?_)
    refine lv_iconst (pc := 14) (v := 0) hx hb dX3_findSign_14 (by decide) ?_
    refine lv_istore_n (pc := 15) (lv' := [(3, .int 0), (2, .int t_1), (0, .ref a_this), (1, .int x1)]) hx hb dX3_findSign_15 rfl hl (by decide) rfl (fun ls hl => ?_)
    have Lih16_5 : ∀ (F : Nat) (x3_3 : Int32) (x2_4 : Int32) (ls : Array Slot) (H : Heap) (locs : List Loc), lv_has ls 4 [(3, .int x3_3), (2, .int x2_4), (0, .ref a_this), (1, .int x1)] → Wd D A s (wX3_findSign cB cI cZ a_this a_packed v_size v_pressed v_packed) H locs → fX3_findSign_L16 x1 v_size v_packed F x3_3 x2_4 = some res → W p l e (rmK 4 89) s m ([.ref a_this, .int x1] : List Value).toArray below meth c H locs 0 0 (MQ below (QG D (tyL cB cI cZ) A (fun res : Int32 => some (.int res)) (fun res : Int32 => (wX3_findSign cB cI cZ a_this a_packed v_size v_pressed v_packed)) res) ([.ref a_this, .int x1] : List Value).toArray s 0 0 A) (F0 m 16 ls []) := by
      intro F
      induction F with
      | zero => intro x3_3 x2_4 ls H locs hl hw h; rw [fX3_findSign_L16.eq_1] at h; cases h
      | succ F16_5 ih16_5 =>
        intro x3_3 x2_4 ls H locs hl hw h
        rw [fX3_findSign_L16.eq_2] at h
        refine lv_iload_n (pc := 16) hx hb dX3_findSign_16 rfl (lv_at hl 0 rfl) ?_
        refine lv_iload_n (pc := 17) hx hb dX3_findSign_17 rfl (lv_at hl 3 rfl) ?_
        refine lv_icmp_ge (pc := 18) (tgt := 40) hx hb dX3_findSign_18 (by decide) (fun hc_6 => ?_) (fun hc_6 => ?_)
        · have h := ift hc_6 h
          refine lv_iload_n (pc := 40) hx hb dX3_findSign_40 rfl (lv_at hl 1 rfl) ?_
          exact x_iret (pc := 41) (v := x2_4) C (Option.some.inj h) rfl hw dX3_findSign_41
        · have h := iff' hc_6 h
          refine lv_iload_n (pc := 21) hx hb dX3_findSign_21 rfl (lv_at hl 1 rfl) ?_
          refine lv_iconst (pc := 22) (v := (-1)) hx hb dX3_findSign_22 (by decide) ?_
          refine lv_icmp_eq (pc := 23) (tgt := 40) hx hb dX3_findSign_23 (by decide) (fun hc_7 => ?_) (fun hc_7 => ?_)
          · have h := ift hc_7 h
            refine lv_iload_n (pc := 40) hx hb dX3_findSign_40 rfl (lv_at hl 1 rfl) ?_
            exact x_iret (pc := 41) (v := x2_4) C (Option.some.inj h) rfl hw dX3_findSign_41
          · have h := iff' hc_7 h
            refine lv_aload_n (pc := 26) hx hb dX3_findSign_26 rfl (lv_at hl 2 rfl) ?_
            refine lv_iload_n (pc := 27) hx hb dX3_findSign_27 rfl (lv_at hl 1 rfl) ?_
            refine lv_iconst (pc := 28) (v := 1) hx hb dX3_findSign_28 (by decide) ?_
            refine lv_iadd (pc := 29) hx hb dX3_findSign_29 ?_
            obtain ⟨r_8, hq_9, h⟩ := ob1_at h
            refine x_callV (pc := 30) (rest := []) (stk := [.int r_8]) (wX3_findSign cB cI cZ a_this a_packed v_size v_pressed v_packed) C hw (ct_X3_nextSign l D cB cI cZ tw a_this a_packed v_size v_pressed v_packed (x2_4 + (1 : Int32)) r_8 hq_9) cal_X3_nextSign tw_642 (q0 := 0) rfl rfl [0, 1] [] 2 [] rfl rfl rfl rfl rfl rfl rfl rfl rfl rfl rfl (Nat.le_of_ble_eq_true rfl) hl.1 ⟨Nat.le_of_ble_eq_true rfl, Nat.le_of_ble_eq_true rfl⟩ ⟨Nat.zero_le _, Nat.zero_le _⟩ dX3_findSign_30 (fun H locs hw => ?_)
            refine lv_istore_n (pc := 33) (lv' := [(2, .int r_8), (3, .int x3_3), (0, .ref a_this), (1, .int x1)]) hx hb dX3_findSign_33 rfl hl (by decide) rfl (fun ls hl => ?_)
            obtain ⟨x3_10, ex3_10⟩ : ∃ y : Int32, y = x3_3 + 1 := ⟨_, rfl⟩
            have h := nm_at ex3_10 h
            refine lv_iinc (pc := 34) (v := x3_10) (lv' := [(3, .int x3_10), (2, .int r_8), (0, .ref a_this), (1, .int x1)]) hx hb dX3_findSign_34 hl (k := 1) rfl (by rw [ex3_10]; rfl) (by decide) rfl (fun ls hl => ?_)
            refine lv_goto (pc := 37) (tgt := 16) hx hb dX3_findSign_37 (by decide) ?_
            exact ih16_5 x3_10 r_8 ls _ _ (lv_sub hl [0, 1, 2, 3] rfl) hw h
    exact Lih16_5 FU 0 t_1 ls _ _ (lv_sub hl [0, 1, 2, 3] rfl) hw h
  refine lv_if_ge (pc := 1) (tgt := 8) hx hb dX3_findSign_1 (by decide) (fun hc_11 => ?_) (fun hc_11 => ?_)
  · have h := ift hc_11 h
    refine lv_aload_n (pc := 8) hx hb dX3_findSign_8 rfl (lv_at hl 0 rfl) ?_
    refine lv_iconst (pc := 9) (v := 0) hx hb dX3_findSign_9 (by decide) ?_
    obtain ⟨r_12, hq_13, h⟩ := ob1_at h
    refine x_callV (pc := 10) (rest := []) (stk := [.int r_12]) (wX3_findSign cB cI cZ a_this a_packed v_size v_pressed v_packed) C hw (ct_X3_nextSign l D cB cI cZ tw a_this a_packed v_size v_pressed v_packed 0 r_12 hq_13) cal_X3_nextSign tw_642 (q0 := 0) rfl rfl [0, 1] [] 2 [] rfl rfl rfl rfl rfl rfl rfl rfl rfl rfl rfl (Nat.le_of_ble_eq_true rfl) hl.1 ⟨Nat.le_of_ble_eq_true rfl, Nat.le_of_ble_eq_true rfl⟩ ⟨Nat.zero_le _, Nat.zero_le _⟩ dX3_findSign_10 (fun H locs hw => ?_)
    exact J13_2 r_12 ls _ _ (lv_sub hl [0, 1] rfl) hw h
  · have h := iff' hc_11 h
    refine lv_iconst (pc := 4) (v := (-1)) hx hb dX3_findSign_4 (by decide) ?_
    refine lv_goto (pc := 5) (tgt := 13) hx hb dX3_findSign_5 (by decide) ?_
    exact J13_2 (-1) ls _ _ (lv_sub hl [0, 1] rfl) hw h
