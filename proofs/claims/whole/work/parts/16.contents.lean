def wX1_startAt (cB cI cZ : ClassId) (a_this : Nat) (a_sections : Nat) (a_controls : Nat) (a_tracks : Nat) (a_indexes : Nat) (v_entries : Int32) (v_start : Int32) : va_W := [oX1 a_this a_sections a_controls a_tracks a_indexes v_entries v_start]
def fX1_startAt (v_start : Int32) (x1 : Int32) : Int32 := x1
set_option maxHeartbeats 4000000 in
set_option maxRecDepth 100000 in
theorem ct_X1_startAt (l : Launch) (D : va_G) (cB cI cZ : ClassId) (tw : Nat) (a_this : Nat) (a_sections : Nat) (a_controls : Nat) (a_tracks : Nat) (a_indexes : Nat) (v_entries : Int32) (v_start : Int32) (x1 : Int32) (res : Int32) (h : fX1_startAt v_start x1 = res) : Ctr l yX1_startAt cX1_startAt 2 none (rmK 0 0) D (tyL cB cI cZ) tw [.ref a_this, .int x1] (wX1_startAt cB cI cZ a_this a_sections a_controls a_tracks a_indexes v_entries v_start) (fun _ : Int32 => none) (fun res : Int32 => (wX1_startAt cB cI cZ a_this a_sections a_controls a_tracks a_indexes v_entries res)) res := by
  refine ctr_of RX1 (by decide) rfl (Nat.le_of_ble_eq_true rfl) ?_
  intro p e s m below meth c A C hw ls hl
  have hx := C.1
  have hb := C.2.1
  have hl : lv_has ls 2 [(0, .ref a_this), (1, .int x1)] := hl
  unfold fX1_startAt at h
  refine lv_aload_n (pc := 0) hx hb dX1_startAt_0 rfl (lv_at hl 0 rfl) ?_
  refine lv_iload_n (pc := 1) hx hb dX1_startAt_1 rfl (lv_at hl 1 rfl) ?_
  refine pf_X1_24 (pc := 2) (wX1_startAt cB cI cZ a_this a_sections a_controls a_tracks a_indexes v_entries x1) C hw 0 rfl rfl rfl rfl (Nat.le_of_ble_eq_true rfl) dX1_startAt_2 (fun H locs hw => ?_)
  exact x_vret (pc := 5) (v := x1) C h rfl hw dX1_startAt_5
def wX1_add (cB cI cZ : ClassId) (a_this : Nat) (a_sections : Nat) (a_controls : Nat) (a_tracks : Nat) (a_indexes : Nat) (v_entries : Int32) (v_start : Int32) (v_controls : Nat → Int32) (v_indexes : Nat → Int32) (v_sections : Nat → Int32) (v_tracks : Nat → Int32) : va_W := [oX1 a_this a_sections a_controls a_tracks a_indexes v_entries v_start, (a_controls, .inl (cI, 20, .inl v_controls)), (a_indexes, .inl (cI, 20, .inl v_indexes)), (a_sections, .inl (cI, 20, .inl v_sections)), (a_tracks, .inl (cI, 20, .inl v_tracks))]
def fX1_add (v_entries : Int32) (v_controls : Nat → Int32) (v_indexes : Nat → Int32) (v_sections : Nat → Int32) (v_tracks : Nat → Int32) (x1 : Int32) (x2 : Int32) (x3 : Int32) (x4 : Int32) : Option (Int32 × Int32 × (Nat → Int32) × (Nat → Int32) × (Nat → Int32) × (Nat → Int32)) := if v_entries < 0 then some ((-1), v_entries, v_controls, v_indexes, v_sections, v_tracks) else if v_entries < (20 : Int32) then og (ixb v_entries 20) (nm (upd v_sections (Int32.toNatClampNeg v_entries) x1) fun v_sections_4 => og (ixb v_entries 20) (nm (upd v_controls (Int32.toNatClampNeg v_entries) x2) fun v_controls_6 => og (ixb v_entries 20) (nm (upd v_tracks (Int32.toNatClampNeg v_entries) x3) fun v_tracks_8 => og (ixb v_entries 20) (nm (upd v_indexes (Int32.toNatClampNeg v_entries) x4) fun v_indexes_10 => nm ((v_entries + (1 : Int32)) : Int32) fun v_entries_11 => some (v_entries_11, v_entries_11, v_controls_6, v_indexes_10, v_sections_4, v_tracks_8))))) else some ((-1), v_entries, v_controls, v_indexes, v_sections, v_tracks)
set_option maxHeartbeats 4000000 in
set_option maxRecDepth 100000 in
theorem ct_X1_add (l : Launch) (D : va_G) (cB cI cZ : ClassId) (tw : Nat) (a_this : Nat) (a_sections : Nat) (a_controls : Nat) (a_tracks : Nat) (a_indexes : Nat) (v_entries : Int32) (v_start : Int32) (v_controls : Nat → Int32) (v_indexes : Nat → Int32) (v_sections : Nat → Int32) (v_tracks : Nat → Int32) (x1 : Int32) (x2 : Int32) (x3 : Int32) (x4 : Int32) (res : Int32 × Int32 × (Nat → Int32) × (Nat → Int32) × (Nat → Int32) × (Nat → Int32)) (h : fX1_add v_entries v_controls v_indexes v_sections v_tracks x1 x2 x3 x4 = some res) : Ctr l yX1_add cX1_add 5 (some .int) (rmK 0 0) D (tyL cB cI cZ) tw [.ref a_this, .int x1, .int x2, .int x3, .int x4] (wX1_add cB cI cZ a_this a_sections a_controls a_tracks a_indexes v_entries v_start v_controls v_indexes v_sections v_tracks) (fun res : Int32 × Int32 × (Nat → Int32) × (Nat → Int32) × (Nat → Int32) × (Nat → Int32) => some (.int res.1)) (fun res : Int32 × Int32 × (Nat → Int32) × (Nat → Int32) × (Nat → Int32) × (Nat → Int32) => (wX1_add cB cI cZ a_this a_sections a_controls a_tracks a_indexes (res.2.1) v_start (res.2.2.1) (res.2.2.2.1) (res.2.2.2.2.1) (res.2.2.2.2.2))) res := by
  refine ctr_of RX1 (by decide) rfl (Nat.le_of_ble_eq_true rfl) ?_
  intro p e s m below meth c A C hw ls hl
  have hx := C.1
  have hb := C.2.1
  have hl : lv_has ls 5 [(0, .ref a_this), (1, .int x1), (2, .int x2), (3, .int x3), (4, .int x4)] := hl
  unfold fX1_add at h
  refine lv_aload_n (pc := 0) hx hb dX1_add_0 rfl (lv_at hl 0 rfl) ?_
  refine gf_X1_28 (pc := 1) C hw 0 rfl rfl dX1_add_1 ?_
  refine lv_if_lt (pc := 4) (tgt := 16) hx hb dX1_add_4 (by decide) (fun hc_1 => ?_) (fun hc_1 => ?_)
  · have h := ift hc_1 h
    refine lv_iconst (pc := 16) (v := (-1)) hx hb dX1_add_16 (by decide) ?_
    exact x_iret (pc := 17) (v := ((-1), v_entries, v_controls, v_indexes, v_sections, v_tracks)) C (Option.some.inj h) rfl hw dX1_add_17
  · have h := iff' hc_1 h
    refine lv_aload_n (pc := 7) hx hb dX1_add_7 rfl (lv_at hl 0 rfl) ?_
    refine gf_X1_28 (pc := 8) C hw 0 rfl rfl dX1_add_8 ?_
    refine lv_bipush (pc := 11) (v := 20) hx hb dX1_add_11 (by decide) ?_
    refine lv_icmp_lt (pc := 13) (tgt := 18) hx hb dX1_add_13 (by decide) (fun hc_2 => ?_) (fun hc_2 => ?_)
    · have h := ift hc_2 h
      refine lv_aload_n (pc := 18) hx hb dX1_add_18 rfl (lv_at hl 0 rfl) ?_
      refine gf_X1_9 (pc := 19) C hw 0 rfl rfl dX1_add_19 ?_
      refine lv_aload_n (pc := 22) hx hb dX1_add_22 rfl (lv_at hl 0 rfl) ?_
      refine gf_X1_28 (pc := 23) C hw 0 rfl rfl dX1_add_23 ?_
      refine lv_iload_n (pc := 26) hx hb dX1_add_26 rfl (lv_at hl 1 rfl) ?_
      obtain ⟨hi_3, h⟩ := og_at h
      obtain ⟨v_sections_4, ev_sections_4⟩ : ∃ y : Nat → Int32, y = upd v_sections (Int32.toNatClampNeg v_entries) x1 := ⟨_, rfl⟩
      have h := nm_at ev_sections_4 h
      refine x_iast (pc := 27) (wX1_add cB cI cZ a_this a_sections a_controls a_tracks a_indexes v_entries v_start v_controls v_indexes v_sections_4 v_tracks) C hw 3 rfl hi_3 (by rw [ev_sections_4]; rfl) dX1_add_27 (fun H locs hw => ?_)
      refine lv_aload_n (pc := 28) hx hb dX1_add_28 rfl (lv_at hl 0 rfl) ?_
      refine gf_X1_15 (pc := 29) C hw 0 rfl rfl dX1_add_29 ?_
      refine lv_aload_n (pc := 32) hx hb dX1_add_32 rfl (lv_at hl 0 rfl) ?_
      refine gf_X1_28 (pc := 33) C hw 0 rfl rfl dX1_add_33 ?_
      refine lv_iload_n (pc := 36) hx hb dX1_add_36 rfl (lv_at hl 2 rfl) ?_
      obtain ⟨hi_5, h⟩ := og_at h
      obtain ⟨v_controls_6, ev_controls_6⟩ : ∃ y : Nat → Int32, y = upd v_controls (Int32.toNatClampNeg v_entries) x2 := ⟨_, rfl⟩
      have h := nm_at ev_controls_6 h
      refine x_iast (pc := 37) (wX1_add cB cI cZ a_this a_sections a_controls a_tracks a_indexes v_entries v_start v_controls_6 v_indexes v_sections_4 v_tracks) C hw 1 rfl hi_5 (by rw [ev_controls_6]; rfl) dX1_add_37 (fun H locs hw => ?_)
      refine lv_aload_n (pc := 38) hx hb dX1_add_38 rfl (lv_at hl 0 rfl) ?_
      refine gf_X1_18 (pc := 39) C hw 0 rfl rfl dX1_add_39 ?_
      refine lv_aload_n (pc := 42) hx hb dX1_add_42 rfl (lv_at hl 0 rfl) ?_
      refine gf_X1_28 (pc := 43) C hw 0 rfl rfl dX1_add_43 ?_
      refine lv_iload_n (pc := 46) hx hb dX1_add_46 rfl (lv_at hl 3 rfl) ?_
      obtain ⟨hi_7, h⟩ := og_at h
      obtain ⟨v_tracks_8, ev_tracks_8⟩ : ∃ y : Nat → Int32, y = upd v_tracks (Int32.toNatClampNeg v_entries) x3 := ⟨_, rfl⟩
      have h := nm_at ev_tracks_8 h
      refine x_iast (pc := 47) (wX1_add cB cI cZ a_this a_sections a_controls a_tracks a_indexes v_entries v_start v_controls_6 v_indexes v_sections_4 v_tracks_8) C hw 4 rfl hi_7 (by rw [ev_tracks_8]; rfl) dX1_add_47 (fun H locs hw => ?_)
      refine lv_aload_n (pc := 48) hx hb dX1_add_48 rfl (lv_at hl 0 rfl) ?_
      refine gf_X1_21 (pc := 49) C hw 0 rfl rfl dX1_add_49 ?_
      refine lv_aload_n (pc := 52) hx hb dX1_add_52 rfl (lv_at hl 0 rfl) ?_
      refine gf_X1_28 (pc := 53) C hw 0 rfl rfl dX1_add_53 ?_
      refine lv_iload (pc := 56) hx hb dX1_add_56 (lv_at hl 4 rfl) ?_
      obtain ⟨hi_9, h⟩ := og_at h
      obtain ⟨v_indexes_10, ev_indexes_10⟩ : ∃ y : Nat → Int32, y = upd v_indexes (Int32.toNatClampNeg v_entries) x4 := ⟨_, rfl⟩
      have h := nm_at ev_indexes_10 h
      refine x_iast (pc := 58) (wX1_add cB cI cZ a_this a_sections a_controls a_tracks a_indexes v_entries v_start v_controls_6 v_indexes_10 v_sections_4 v_tracks_8) C hw 2 rfl hi_9 (by rw [ev_indexes_10]; rfl) dX1_add_58 (fun H locs hw => ?_)
      refine lv_aload_n (pc := 59) hx hb dX1_add_59 rfl (lv_at hl 0 rfl) ?_
      refine lv_dup (pc := 60) hx hb dX1_add_60 rfl ?_
      refine gf_X1_28 (pc := 61) C hw 0 rfl rfl dX1_add_61 ?_
      refine lv_iconst (pc := 64) (v := 1) hx hb dX1_add_64 (by decide) ?_
      refine lv_iadd (pc := 65) hx hb dX1_add_65 ?_
      refine lv_topi (pc := 66) (fun v_entries_11 ev_entries_11 => ?_)
      have h := nm_at ev_entries_11 h
      refine pf_X1_28 (pc := 66) (wX1_add cB cI cZ a_this a_sections a_controls a_tracks a_indexes v_entries_11 v_start v_controls_6 v_indexes_10 v_sections_4 v_tracks_8) C hw 0 rfl rfl rfl rfl (Nat.le_of_ble_eq_true rfl) dX1_add_66 (fun H locs hw => ?_)
      refine lv_aload_n (pc := 69) hx hb dX1_add_69 rfl (lv_at hl 0 rfl) ?_
      refine gf_X1_28 (pc := 70) C hw 0 rfl rfl dX1_add_70 ?_
      exact x_iret (pc := 73) (v := (v_entries_11, v_entries_11, v_controls_6, v_indexes_10, v_sections_4, v_tracks_8)) C (Option.some.inj h) rfl hw dX1_add_73
    · have h := iff' hc_2 h
      refine lv_iconst (pc := 16) (v := (-1)) hx hb dX1_add_16 (by decide) ?_
      exact x_iret (pc := 17) (v := ((-1), v_entries, v_controls, v_indexes, v_sections, v_tracks)) C (Option.some.inj h) rfl hw dX1_add_17
def wX1_clear (cB cI cZ : ClassId) (a_this : Nat) (a_sections : Nat) (a_controls : Nat) (a_tracks : Nat) (a_indexes : Nat) (v_entries : Int32) (v_start : Int32) : va_W := [oX1 a_this a_sections a_controls a_tracks a_indexes v_entries v_start]
def fX1_clear (v_entries : Int32) : Int32 × Int32 := (v_entries, 0)
set_option maxHeartbeats 4000000 in
set_option maxRecDepth 100000 in
theorem ct_X1_clear (l : Launch) (D : va_G) (cB cI cZ : ClassId) (tw : Nat) (a_this : Nat) (a_sections : Nat) (a_controls : Nat) (a_tracks : Nat) (a_indexes : Nat) (v_entries : Int32) (v_start : Int32) (res : Int32 × Int32) (h : fX1_clear v_entries = res) : Ctr l yX1_clear cX1_clear 2 (some .int) (rmK 0 0) D (tyL cB cI cZ) tw [.ref a_this] (wX1_clear cB cI cZ a_this a_sections a_controls a_tracks a_indexes v_entries v_start) (fun res : Int32 × Int32 => some (.int res.1)) (fun res : Int32 × Int32 => (wX1_clear cB cI cZ a_this a_sections a_controls a_tracks a_indexes (res.2) v_start)) res := by
  refine ctr_of RX1 (by decide) rfl (Nat.le_of_ble_eq_true rfl) ?_
  intro p e s m below meth c A C hw ls hl
  have hx := C.1
  have hb := C.2.1
  have hl : lv_has ls 2 [(0, .ref a_this)] := hl
  unfold fX1_clear at h
  refine lv_aload_n (pc := 0) hx hb dX1_clear_0 rfl (lv_at hl 0 rfl) ?_
  refine gf_X1_28 (pc := 1) C hw 0 rfl rfl dX1_clear_1 ?_
  refine lv_istore_n (pc := 4) (lv' := [(1, .int v_entries), (0, .ref a_this)]) hx hb dX1_clear_4 rfl hl (by decide) rfl (fun ls hl => ?_)
  refine lv_aload_n (pc := 5) hx hb dX1_clear_5 rfl (lv_at hl 1 rfl) ?_
  refine lv_iconst (pc := 6) (v := 0) hx hb dX1_clear_6 (by decide) ?_
  refine pf_X1_28 (pc := 7) (wX1_clear cB cI cZ a_this a_sections a_controls a_tracks a_indexes 0 v_start) C hw 0 rfl rfl rfl rfl (Nat.le_of_ble_eq_true rfl) dX1_clear_7 (fun H locs hw => ?_)
  refine lv_iload_n (pc := 10) hx hb dX1_clear_10 rfl (lv_at hl 0 rfl) ?_
  exact x_iret (pc := 11) (v := (v_entries, 0)) C h rfl hw dX1_clear_11
def wX1_entryFor (cB cI cZ : ClassId) (a_this : Nat) (a_sections : Nat) (a_controls : Nat) (a_tracks : Nat) (a_indexes : Nat) (v_entries : Int32) (v_start : Int32) (v_sections : Nat → Int32) : va_W := [oX1 a_this a_sections a_controls a_tracks a_indexes v_entries v_start, (a_sections, .inl (cI, 20, .inl v_sections))]
def fX1_entryFor_L4 (v_entries : Int32) (x1 : Int32) (v_sections : Nat → Int32) : Nat → Int32 → Int32 → Option (Int32)
  | 0, _, _ => none
  | F4_3 + 1, x3_1, x2_2 => if v_entries ≤ x3_1 then some x2_2 else if (20 : Int32) ≤ x3_1 then some x2_2 else og (ixb x3_1 20) (jk (fun (x2_7 : Int32) => nm (x3_1 + 1 : Int32) fun x3_9 => fX1_entryFor_L4 v_entries x1 v_sections F4_3 x3_9 x2_7) fun j50_8 => if x1 < (v_sections (Int32.toNatClampNeg x3_1)) then j50_8 x2_2 else jk (j50_8 x3_1) fun j48_11 => if x2_2 = (-1 : Int32) then j48_11 else og (ixb x3_1 20) (og (ixb x2_2 20) (if (v_sections (Int32.toNatClampNeg x3_1)) < (v_sections (Int32.toNatClampNeg x2_2)) then j50_8 x2_2 else j48_11)))
def fX1_entryFor (v_entries : Int32) (v_sections : Nat → Int32) (x1 : Int32) : Option (Int32) := fX1_entryFor_L4 v_entries x1 v_sections FU 0 (-1)
set_option maxHeartbeats 4000000 in
set_option maxRecDepth 100000 in
theorem ct_X1_entryFor (l : Launch) (D : va_G) (cB cI cZ : ClassId) (tw : Nat) (a_this : Nat) (a_sections : Nat) (a_controls : Nat) (a_tracks : Nat) (a_indexes : Nat) (v_entries : Int32) (v_start : Int32) (v_sections : Nat → Int32) (x1 : Int32) (res : Int32) (h : fX1_entryFor v_entries v_sections x1 = some res) : Ctr l yX1_entryFor cX1_entryFor 4 (some .int) (rmK 0 0) D (tyL cB cI cZ) tw [.ref a_this, .int x1] (wX1_entryFor cB cI cZ a_this a_sections a_controls a_tracks a_indexes v_entries v_start v_sections) (fun res : Int32 => some (.int res)) (fun res : Int32 => (wX1_entryFor cB cI cZ a_this a_sections a_controls a_tracks a_indexes v_entries v_start v_sections)) res := by
  refine ctr_of RX1 (by decide) rfl (Nat.le_of_ble_eq_true rfl) ?_
  intro p e s m below meth c A C hw ls hl
  have hx := C.1
  have hb := C.2.1
  have hl : lv_has ls 4 [(0, .ref a_this), (1, .int x1)] := hl
  unfold fX1_entryFor at h
  refine lv_iconst (pc := 0) (v := (-1)) hx hb dX1_entryFor_0 (by decide) ?_
  refine lv_istore_n (pc := 1) (lv' := [(2, .int (-1)), (0, .ref a_this), (1, .int x1)]) hx hb dX1_entryFor_1 rfl hl (by decide) rfl (fun ls hl => ?_)
  refine lv_iconst (pc := 2) (v := 0) hx hb dX1_entryFor_2 (by decide) ?_
  refine lv_istore_n (pc := 3) (lv' := [(3, .int 0), (2, .int (-1)), (0, .ref a_this), (1, .int x1)]) hx hb dX1_entryFor_3 rfl hl (by decide) rfl (fun ls hl => ?_)
  have Lih4_3 : ∀ (F : Nat) (x3_1 : Int32) (x2_2 : Int32) (ls : Array Slot) (H : Heap) (locs : List Loc), lv_has ls 4 [(3, .int x3_1), (2, .int x2_2), (0, .ref a_this), (1, .int x1)] → Wd D A s (wX1_entryFor cB cI cZ a_this a_sections a_controls a_tracks a_indexes v_entries v_start v_sections) H locs → fX1_entryFor_L4 v_entries x1 v_sections F x3_1 x2_2 = some res → W p l e (rmK 0 0) s m ([.ref a_this, .int x1] : List Value).toArray below meth c H locs 0 0 (MQ below (QG D (tyL cB cI cZ) A (fun res : Int32 => some (.int res)) (fun res : Int32 => (wX1_entryFor cB cI cZ a_this a_sections a_controls a_tracks a_indexes v_entries v_start v_sections)) res) ([.ref a_this, .int x1] : List Value).toArray s 0 0 A) (F0 m 4 ls []) := by
    intro F
    induction F with
    | zero => intro x3_1 x2_2 ls H locs hl hw h; rw [fX1_entryFor_L4.eq_1] at h; cases h
    | succ F4_3 ih4_3 =>
      intro x3_1 x2_2 ls H locs hl hw h
      rw [fX1_entryFor_L4.eq_2] at h
      refine lv_iload_n (pc := 4) hx hb dX1_entryFor_4 rfl (lv_at hl 0 rfl) ?_
      refine lv_aload_n (pc := 5) hx hb dX1_entryFor_5 rfl (lv_at hl 2 rfl) ?_
      refine gf_X1_28 (pc := 6) C hw 0 rfl rfl dX1_entryFor_6 ?_
      refine lv_icmp_ge (pc := 9) (tgt := 56) hx hb dX1_entryFor_9 (by decide) (fun hc_4 => ?_) (fun hc_4 => ?_)
      · have h := ift hc_4 h
        refine lv_iload_n (pc := 56) hx hb dX1_entryFor_56 rfl (lv_at hl 1 rfl) ?_
        exact x_iret (pc := 57) (v := x2_2) C (Option.some.inj h) rfl hw dX1_entryFor_57
      · have h := iff' hc_4 h
        refine lv_iload_n (pc := 12) hx hb dX1_entryFor_12 rfl (lv_at hl 0 rfl) ?_
        refine lv_bipush (pc := 13) (v := 20) hx hb dX1_entryFor_13 (by decide) ?_
        refine lv_icmp_ge (pc := 15) (tgt := 56) hx hb dX1_entryFor_15 (by decide) (fun hc_5 => ?_) (fun hc_5 => ?_)
        · have h := ift hc_5 h
          refine lv_iload_n (pc := 56) hx hb dX1_entryFor_56 rfl (lv_at hl 1 rfl) ?_
          exact x_iret (pc := 57) (v := x2_2) C (Option.some.inj h) rfl hw dX1_entryFor_57
        · have h := iff' hc_5 h
          refine lv_aload_n (pc := 18) hx hb dX1_entryFor_18 rfl (lv_at hl 2 rfl) ?_
          refine gf_X1_9 (pc := 19) C hw 0 rfl rfl dX1_entryFor_19 ?_
          refine lv_iload_n (pc := 22) hx hb dX1_entryFor_22 rfl (lv_at hl 0 rfl) ?_
          obtain ⟨hi_6, h⟩ := og_at h
          refine x_iald (pc := 23) C hw 1 rfl hi_6 dX1_entryFor_23 ?_
          refine lv_iload_n (pc := 24) hx hb dX1_entryFor_24 rfl (lv_at hl 3 rfl) ?_
          obtain ⟨j50_8, ej50_8, h⟩ := jk_at h
          have J50_8 : ∀ (x2_7 : Int32) (ls : Array Slot) (H : Heap) (locs : List Loc), lv_has ls 4 [(3, .int x3_1), (2, .int x2_7), (0, .ref a_this), (1, .int x1)] → Wd D A s (wX1_entryFor cB cI cZ a_this a_sections a_controls a_tracks a_indexes v_entries v_start v_sections) H locs → j50_8 x2_7 = some res → W p l e (rmK 0 0) s m ([.ref a_this, .int x1] : List Value).toArray below meth c H locs 0 0 (MQ below (QG D (tyL cB cI cZ) A (fun res : Int32 => some (.int res)) (fun res : Int32 => (wX1_entryFor cB cI cZ a_this a_sections a_controls a_tracks a_indexes v_entries v_start v_sections)) res) ([.ref a_this, .int x1] : List Value).toArray s 0 0 A) (F0 m 50 ls []) := by
            intro x2_7 ls H locs hl hw h
            have h := k1_at ej50_8 h
            obtain ⟨x3_9, ex3_9⟩ : ∃ y : Int32, y = x3_1 + 1 := ⟨_, rfl⟩
            have h := nm_at ex3_9 h
            refine lv_iinc (pc := 50) (v := x3_9) (lv' := [(3, .int x3_9), (2, .int x2_7), (0, .ref a_this), (1, .int x1)]) hx hb dX1_entryFor_50 hl (k := 0) rfl (by rw [ex3_9]; rfl) (by decide) rfl (fun ls hl => ?_)
            refine lv_goto (pc := 53) (tgt := 4) hx hb dX1_entryFor_53 (by decide) ?_
            exact ih4_3 x3_9 x2_7 ls _ _ (lv_sub hl [0, 1, 2, 3] rfl) hw h
          refine lv_icmp_gt (pc := 25) (tgt := 50) hx hb dX1_entryFor_25 (by decide) (fun hc_10 => ?_) (fun hc_10 => ?_)
          · have h := ift hc_10 h
            exact J50_8 x2_2 ls _ _ (lv_sub hl [0, 1, 2, 3] rfl) hw h
          · have h := iff' hc_10 h
            refine lv_iload_n (pc := 28) hx hb dX1_entryFor_28 rfl (lv_at hl 1 rfl) ?_
            refine lv_iconst (pc := 29) (v := (-1)) hx hb dX1_entryFor_29 (by decide) ?_
            obtain ⟨j48_11, ej48_11, h⟩ := jk_at h
            have J48_11 : ∀  (ls : Array Slot) (H : Heap) (locs : List Loc), lv_has ls 4 [(3, .int x3_1), (0, .ref a_this), (1, .int x1)] → Wd D A s (wX1_entryFor cB cI cZ a_this a_sections a_controls a_tracks a_indexes v_entries v_start v_sections) H locs → j48_11 = some res → W p l e (rmK 0 0) s m ([.ref a_this, .int x1] : List Value).toArray below meth c H locs 0 0 (MQ below (QG D (tyL cB cI cZ) A (fun res : Int32 => some (.int res)) (fun res : Int32 => (wX1_entryFor cB cI cZ a_this a_sections a_controls a_tracks a_indexes v_entries v_start v_sections)) res) ([.ref a_this, .int x1] : List Value).toArray s 0 0 A) (F0 m 48 ls []) := by
              intro  ls H locs hl hw h
              have h := k0_at ej48_11 h
              refine lv_iload_n (pc := 48) hx hb dX1_entryFor_48 rfl (lv_at hl 0 rfl) ?_
              refine lv_istore_n (pc := 49) (lv' := [(2, .int x3_1), (3, .int x3_1), (0, .ref a_this), (1, .int x1)]) hx hb dX1_entryFor_49 rfl hl (by decide) rfl (fun ls hl => ?_)
              exact J50_8 x3_1 ls _ _ (lv_sub hl [1, 0, 2, 3] rfl) hw h
            refine lv_icmp_eq (pc := 30) (tgt := 48) hx hb dX1_entryFor_30 (by decide) (fun hc_12 => ?_) (fun hc_12 => ?_)
            · have h := ift hc_12 h
              exact J48_11  ls _ _ (lv_sub hl [0, 2, 3] rfl) hw h
            · have h := iff' hc_12 h
              refine lv_aload_n (pc := 33) hx hb dX1_entryFor_33 rfl (lv_at hl 2 rfl) ?_
              refine gf_X1_9 (pc := 34) C hw 0 rfl rfl dX1_entryFor_34 ?_
              refine lv_iload_n (pc := 37) hx hb dX1_entryFor_37 rfl (lv_at hl 0 rfl) ?_
              obtain ⟨hi_13, h⟩ := og_at h
              refine x_iald (pc := 38) C hw 1 rfl hi_13 dX1_entryFor_38 ?_
              refine lv_aload_n (pc := 39) hx hb dX1_entryFor_39 rfl (lv_at hl 2 rfl) ?_
              refine gf_X1_9 (pc := 40) C hw 0 rfl rfl dX1_entryFor_40 ?_
              refine lv_iload_n (pc := 43) hx hb dX1_entryFor_43 rfl (lv_at hl 1 rfl) ?_
              obtain ⟨hi_14, h⟩ := og_at h
              refine x_iald (pc := 44) C hw 1 rfl hi_14 dX1_entryFor_44 ?_
              refine lv_icmp_lt (pc := 45) (tgt := 50) hx hb dX1_entryFor_45 (by decide) (fun hc_15 => ?_) (fun hc_15 => ?_)
              · have h := ift hc_15 h
                exact J50_8 x2_2 ls _ _ (lv_sub hl [0, 1, 2, 3] rfl) hw h
              · have h := iff' hc_15 h
                exact J48_11  ls _ _ (lv_sub hl [0, 2, 3] rfl) hw h
  exact Lih4_3 FU 0 (-1) ls _ _ (lv_sub hl [0, 1, 2, 3] rfl) hw h
def wX1_isEntry (cB cI cZ : ClassId) : va_W := []
def fX1_isEntry (x0 : Int32) : Int32 := if x0 < 0 then 0 else if (20 : Int32) ≤ x0 then 0 else 1
set_option maxHeartbeats 4000000 in
set_option maxRecDepth 100000 in
theorem ct_X1_isEntry (l : Launch) (D : va_G) (cB cI cZ : ClassId) (tw : Nat) (x0 : Int32) (res : Int32) (h : fX1_isEntry x0 = res) : Ctr l yX1_isEntry cX1_isEntry 1 (some .boolean) (rmK 0 0) D (tyL cB cI cZ) tw [.int x0] (wX1_isEntry cB cI cZ) (fun res : Int32 => some (.int res)) (fun res : Int32 => (wX1_isEntry cB cI cZ)) res := by
  refine ctr_of RX1 (by decide) rfl (Nat.le_of_ble_eq_true rfl) ?_
  intro p e s m below meth c A C hw ls hl
  have hx := C.1
  have hb := C.2.1
  have hl : lv_has ls 1 [(0, .int x0)] := hl
  unfold fX1_isEntry at h
  refine lv_iload_n (pc := 0) hx hb dX1_isEntry_0 rfl (lv_at hl 0 rfl) ?_
  refine lv_if_lt (pc := 1) (tgt := 14) hx hb dX1_isEntry_1 (by decide) (fun hc_1 => ?_) (fun hc_1 => ?_)
  · have h := ift hc_1 h
    refine lv_iconst (pc := 14) (v := 0) hx hb dX1_isEntry_14 (by decide) ?_
    exact x_zret (pc := 15) (v := 0) C h rfl rfl hw dX1_isEntry_15
  · have h := iff' hc_1 h
    refine lv_iload_n (pc := 4) hx hb dX1_isEntry_4 rfl (lv_at hl 0 rfl) ?_
    refine lv_bipush (pc := 5) (v := 20) hx hb dX1_isEntry_5 (by decide) ?_
    refine lv_icmp_ge (pc := 7) (tgt := 14) hx hb dX1_isEntry_7 (by decide) (fun hc_2 => ?_) (fun hc_2 => ?_)
    · have h := ift hc_2 h
      refine lv_iconst (pc := 14) (v := 0) hx hb dX1_isEntry_14 (by decide) ?_
      exact x_zret (pc := 15) (v := 0) C h rfl rfl hw dX1_isEntry_15
    · have h := iff' hc_2 h
      refine lv_iconst (pc := 10) (v := 1) hx hb dX1_isEntry_10 (by decide) ?_
      refine lv_goto (pc := 11) (tgt := 15) hx hb dX1_isEntry_11 (by decide) ?_
      exact x_zret (pc := 15) (v := 1) C h rfl rfl hw dX1_isEntry_15
def wX1_controlOf (cB cI cZ : ClassId) (a_this : Nat) (a_sections : Nat) (a_controls : Nat) (a_tracks : Nat) (a_indexes : Nat) (v_entries : Int32) (v_start : Int32) (v_controls : Nat → Int32) : va_W := [oX1 a_this a_sections a_controls a_tracks a_indexes v_entries v_start, (a_controls, .inl (cI, 20, .inl v_controls))]
def fX1_controlOf (v_controls : Nat → Int32) (x1 : Int32) : Option (Int32) := nt1 (fX1_isEntry x1) fun r_1 => if r_1 = 0 then some 0 else og (ixb x1 20) (some (v_controls (Int32.toNatClampNeg x1)))
set_option maxHeartbeats 4000000 in
set_option maxRecDepth 100000 in
theorem ct_X1_controlOf (l : Launch) (D : va_G) (cB cI cZ : ClassId) (tw : Nat) (a_this : Nat) (a_sections : Nat) (a_controls : Nat) (a_tracks : Nat) (a_indexes : Nat) (v_entries : Int32) (v_start : Int32) (v_controls : Nat → Int32) (x1 : Int32) (res : Int32) (h : fX1_controlOf v_controls x1 = some res) : Ctr l yX1_controlOf cX1_controlOf 2 (some .int) (rmK 1 20) D (tyL cB cI cZ) tw [.ref a_this, .int x1] (wX1_controlOf cB cI cZ a_this a_sections a_controls a_tracks a_indexes v_entries v_start v_controls) (fun res : Int32 => some (.int res)) (fun res : Int32 => (wX1_controlOf cB cI cZ a_this a_sections a_controls a_tracks a_indexes v_entries v_start v_controls)) res := by
  refine ctr_of RX1 (by decide) rfl (Nat.le_of_ble_eq_true rfl) ?_
  intro p e s m below meth c A C hw ls hl
  have hx := C.1
  have hb := C.2.1
  have hl : lv_has ls 2 [(0, .ref a_this), (1, .int x1)] := hl
  unfold fX1_controlOf at h
  refine lv_iload_n (pc := 0) hx hb dX1_controlOf_0 rfl (lv_at hl 1 rfl) ?_
  obtain ⟨r_1, hq_2, h⟩ := nt1_at h
  refine x_callS (pc := 1) (rest := []) (stk := [.int r_1]) (wX1_controlOf cB cI cZ a_this a_sections a_controls a_tracks a_indexes v_entries v_start v_controls) C hw (ct_X1_isEntry l D cB cI cZ tw x1 r_1 hq_2.symm) cal_X1_isEntry tw_509 [] [0, 1] 2 [oX1 a_this a_sections a_controls a_tracks a_indexes v_entries v_start, (a_controls, .inl (cI, 20, .inl v_controls))] rfl rfl rfl rfl rfl rfl rfl rfl rfl rfl rfl (Nat.le_of_ble_eq_true rfl) hl.1 ⟨Nat.le_of_ble_eq_true rfl, Nat.le_of_ble_eq_true rfl⟩ ⟨Nat.zero_le _, Nat.zero_le _⟩ dX1_controlOf_1 (fun H locs hw => ?_)
  refine lv_if_eq (pc := 4) (tgt := 16) hx hb dX1_controlOf_4 (by decide) (fun hc_3 => ?_) (fun hc_3 => ?_)
  · have h := ift hc_3 h
    refine lv_iconst (pc := 16) (v := 0) hx hb dX1_controlOf_16 (by decide) ?_
    exact x_iret (pc := 17) (v := 0) C (Option.some.inj h) rfl hw dX1_controlOf_17
  · have h := iff' hc_3 h
    refine lv_aload_n (pc := 7) hx hb dX1_controlOf_7 rfl (lv_at hl 0 rfl) ?_
    refine gf_X1_15 (pc := 8) C hw 0 rfl rfl dX1_controlOf_8 ?_
    refine lv_iload_n (pc := 11) hx hb dX1_controlOf_11 rfl (lv_at hl 1 rfl) ?_
    obtain ⟨hi_4, h⟩ := og_at h
    refine x_iald (pc := 12) C hw 1 rfl hi_4 dX1_controlOf_12 ?_
    refine lv_goto (pc := 13) (tgt := 17) hx hb dX1_controlOf_13 (by decide) ?_
    exact x_iret (pc := 17) (v := (v_controls (Int32.toNatClampNeg x1))) C (Option.some.inj h) rfl hw dX1_controlOf_17
def wX1_trackOf (cB cI cZ : ClassId) (a_this : Nat) (a_sections : Nat) (a_controls : Nat) (a_tracks : Nat) (a_indexes : Nat) (v_entries : Int32) (v_start : Int32) (v_tracks : Nat → Int32) : va_W := [oX1 a_this a_sections a_controls a_tracks a_indexes v_entries v_start, (a_tracks, .inl (cI, 20, .inl v_tracks))]
def fX1_trackOf (v_tracks : Nat → Int32) (x1 : Int32) : Option (Int32) := nt1 (fX1_isEntry x1) fun r_1 => if r_1 = 0 then some 1 else og (ixb x1 20) (some (v_tracks (Int32.toNatClampNeg x1)))
set_option maxHeartbeats 4000000 in
set_option maxRecDepth 100000 in
theorem ct_X1_trackOf (l : Launch) (D : va_G) (cB cI cZ : ClassId) (tw : Nat) (a_this : Nat) (a_sections : Nat) (a_controls : Nat) (a_tracks : Nat) (a_indexes : Nat) (v_entries : Int32) (v_start : Int32) (v_tracks : Nat → Int32) (x1 : Int32) (res : Int32) (h : fX1_trackOf v_tracks x1 = some res) : Ctr l yX1_trackOf cX1_trackOf 2 (some .int) (rmK 1 20) D (tyL cB cI cZ) tw [.ref a_this, .int x1] (wX1_trackOf cB cI cZ a_this a_sections a_controls a_tracks a_indexes v_entries v_start v_tracks) (fun res : Int32 => some (.int res)) (fun res : Int32 => (wX1_trackOf cB cI cZ a_this a_sections a_controls a_tracks a_indexes v_entries v_start v_tracks)) res := by
  refine ctr_of RX1 (by decide) rfl (Nat.le_of_ble_eq_true rfl) ?_
  intro p e s m below meth c A C hw ls hl
  have hx := C.1
  have hb := C.2.1
  have hl : lv_has ls 2 [(0, .ref a_this), (1, .int x1)] := hl
  unfold fX1_trackOf at h
  refine lv_iload_n (pc := 0) hx hb dX1_trackOf_0 rfl (lv_at hl 1 rfl) ?_
  obtain ⟨r_1, hq_2, h⟩ := nt1_at h
  refine x_callS (pc := 1) (rest := []) (stk := [.int r_1]) (wX1_trackOf cB cI cZ a_this a_sections a_controls a_tracks a_indexes v_entries v_start v_tracks) C hw (ct_X1_isEntry l D cB cI cZ tw x1 r_1 hq_2.symm) cal_X1_isEntry tw_509 [] [0, 1] 2 [oX1 a_this a_sections a_controls a_tracks a_indexes v_entries v_start, (a_tracks, .inl (cI, 20, .inl v_tracks))] rfl rfl rfl rfl rfl rfl rfl rfl rfl rfl rfl (Nat.le_of_ble_eq_true rfl) hl.1 ⟨Nat.le_of_ble_eq_true rfl, Nat.le_of_ble_eq_true rfl⟩ ⟨Nat.zero_le _, Nat.zero_le _⟩ dX1_trackOf_1 (fun H locs hw => ?_)
  refine lv_if_eq (pc := 4) (tgt := 16) hx hb dX1_trackOf_4 (by decide) (fun hc_3 => ?_) (fun hc_3 => ?_)
  · have h := ift hc_3 h
    refine lv_iconst (pc := 16) (v := 1) hx hb dX1_trackOf_16 (by decide) ?_
    exact x_iret (pc := 17) (v := 1) C (Option.some.inj h) rfl hw dX1_trackOf_17
  · have h := iff' hc_3 h
    refine lv_aload_n (pc := 7) hx hb dX1_trackOf_7 rfl (lv_at hl 0 rfl) ?_
    refine gf_X1_18 (pc := 8) C hw 0 rfl rfl dX1_trackOf_8 ?_
    refine lv_iload_n (pc := 11) hx hb dX1_trackOf_11 rfl (lv_at hl 1 rfl) ?_
    obtain ⟨hi_4, h⟩ := og_at h
    refine x_iald (pc := 12) C hw 1 rfl hi_4 dX1_trackOf_12 ?_
    refine lv_goto (pc := 13) (tgt := 17) hx hb dX1_trackOf_13 (by decide) ?_
    exact x_iret (pc := 17) (v := (v_tracks (Int32.toNatClampNeg x1))) C (Option.some.inj h) rfl hw dX1_trackOf_17
def wX1_indexOf (cB cI cZ : ClassId) (a_this : Nat) (a_sections : Nat) (a_controls : Nat) (a_tracks : Nat) (a_indexes : Nat) (v_entries : Int32) (v_start : Int32) (v_indexes : Nat → Int32) : va_W := [oX1 a_this a_sections a_controls a_tracks a_indexes v_entries v_start, (a_indexes, .inl (cI, 20, .inl v_indexes))]
def fX1_indexOf (v_indexes : Nat → Int32) (x1 : Int32) : Option (Int32) := nt1 (fX1_isEntry x1) fun r_1 => if r_1 = 0 then some 1 else og (ixb x1 20) (some (v_indexes (Int32.toNatClampNeg x1)))
set_option maxHeartbeats 4000000 in
set_option maxRecDepth 100000 in
theorem ct_X1_indexOf (l : Launch) (D : va_G) (cB cI cZ : ClassId) (tw : Nat) (a_this : Nat) (a_sections : Nat) (a_controls : Nat) (a_tracks : Nat) (a_indexes : Nat) (v_entries : Int32) (v_start : Int32) (v_indexes : Nat → Int32) (x1 : Int32) (res : Int32) (h : fX1_indexOf v_indexes x1 = some res) : Ctr l yX1_indexOf cX1_indexOf 2 (some .int) (rmK 1 20) D (tyL cB cI cZ) tw [.ref a_this, .int x1] (wX1_indexOf cB cI cZ a_this a_sections a_controls a_tracks a_indexes v_entries v_start v_indexes) (fun res : Int32 => some (.int res)) (fun res : Int32 => (wX1_indexOf cB cI cZ a_this a_sections a_controls a_tracks a_indexes v_entries v_start v_indexes)) res := by
  refine ctr_of RX1 (by decide) rfl (Nat.le_of_ble_eq_true rfl) ?_
  intro p e s m below meth c A C hw ls hl
  have hx := C.1
  have hb := C.2.1
  have hl : lv_has ls 2 [(0, .ref a_this), (1, .int x1)] := hl
  unfold fX1_indexOf at h
  refine lv_iload_n (pc := 0) hx hb dX1_indexOf_0 rfl (lv_at hl 1 rfl) ?_
  obtain ⟨r_1, hq_2, h⟩ := nt1_at h
  refine x_callS (pc := 1) (rest := []) (stk := [.int r_1]) (wX1_indexOf cB cI cZ a_this a_sections a_controls a_tracks a_indexes v_entries v_start v_indexes) C hw (ct_X1_isEntry l D cB cI cZ tw x1 r_1 hq_2.symm) cal_X1_isEntry tw_509 [] [0, 1] 2 [oX1 a_this a_sections a_controls a_tracks a_indexes v_entries v_start, (a_indexes, .inl (cI, 20, .inl v_indexes))] rfl rfl rfl rfl rfl rfl rfl rfl rfl rfl rfl (Nat.le_of_ble_eq_true rfl) hl.1 ⟨Nat.le_of_ble_eq_true rfl, Nat.le_of_ble_eq_true rfl⟩ ⟨Nat.zero_le _, Nat.zero_le _⟩ dX1_indexOf_1 (fun H locs hw => ?_)
  refine lv_if_eq (pc := 4) (tgt := 16) hx hb dX1_indexOf_4 (by decide) (fun hc_3 => ?_) (fun hc_3 => ?_)
  · have h := ift hc_3 h
    refine lv_iconst (pc := 16) (v := 1) hx hb dX1_indexOf_16 (by decide) ?_
    exact x_iret (pc := 17) (v := 1) C (Option.some.inj h) rfl hw dX1_indexOf_17
  · have h := iff' hc_3 h
    refine lv_aload_n (pc := 7) hx hb dX1_indexOf_7 rfl (lv_at hl 0 rfl) ?_
    refine gf_X1_21 (pc := 8) C hw 0 rfl rfl dX1_indexOf_8 ?_
    refine lv_iload_n (pc := 11) hx hb dX1_indexOf_11 rfl (lv_at hl 1 rfl) ?_
    obtain ⟨hi_4, h⟩ := og_at h
    refine x_iald (pc := 12) C hw 1 rfl hi_4 dX1_indexOf_12 ?_
    refine lv_goto (pc := 13) (tgt := 17) hx hb dX1_indexOf_13 (by decide) ?_
    exact x_iret (pc := 17) (v := (v_indexes (Int32.toNatClampNeg x1))) C (Option.some.inj h) rfl hw dX1_indexOf_17
def wX1_isPause (cB cI cZ : ClassId) (a_this : Nat) (a_sections : Nat) (a_controls : Nat) (a_tracks : Nat) (a_indexes : Nat) (v_entries : Int32) (v_start : Int32) (v_indexes : Nat → Int32) (v_sections : Nat → Int32) : va_W := [oX1 a_this a_sections a_controls a_tracks a_indexes v_entries v_start, (a_indexes, .inl (cI, 20, .inl v_indexes)), (a_sections, .inl (cI, 20, .inl v_sections))]
def fX1_isPause (v_entries : Int32) (v_indexes : Nat → Int32) (v_sections : Nat → Int32) (x1 : Int32) : Option (Int32) := ob1 (fX1_entryFor v_entries v_sections x1) fun r_1 => ob1 (fX1_indexOf v_indexes r_1) fun r_3 => if r_3 = 0 then some 1 else some 0
set_option maxHeartbeats 4000000 in
set_option maxRecDepth 100000 in
theorem ct_X1_isPause (l : Launch) (D : va_G) (cB cI cZ : ClassId) (tw : Nat) (a_this : Nat) (a_sections : Nat) (a_controls : Nat) (a_tracks : Nat) (a_indexes : Nat) (v_entries : Int32) (v_start : Int32) (v_indexes : Nat → Int32) (v_sections : Nat → Int32) (x1 : Int32) (res : Int32) (h : fX1_isPause v_entries v_indexes v_sections x1 = some res) : Ctr l yX1_isPause cX1_isPause 2 (some .boolean) (rmK 2 41) D (tyL cB cI cZ) tw [.ref a_this, .int x1] (wX1_isPause cB cI cZ a_this a_sections a_controls a_tracks a_indexes v_entries v_start v_indexes v_sections) (fun res : Int32 => some (.int res)) (fun res : Int32 => (wX1_isPause cB cI cZ a_this a_sections a_controls a_tracks a_indexes v_entries v_start v_indexes v_sections)) res := by
  refine ctr_of RX1 (by decide) rfl (Nat.le_of_ble_eq_true rfl) ?_
  intro p e s m below meth c A C hw ls hl
  have hx := C.1
  have hb := C.2.1
  have hl : lv_has ls 2 [(0, .ref a_this), (1, .int x1)] := hl
  unfold fX1_isPause at h
  refine lv_aload_n (pc := 0) hx hb dX1_isPause_0 rfl (lv_at hl 0 rfl) ?_
  refine lv_aload_n (pc := 1) hx hb dX1_isPause_1 rfl (lv_at hl 0 rfl) ?_
  refine lv_iload_n (pc := 2) hx hb dX1_isPause_2 rfl (lv_at hl 1 rfl) ?_
  obtain ⟨r_1, hq_2, h⟩ := ob1_at h
  refine x_callV (pc := 3) (rest := [.ref a_this]) (stk := [.int r_1, .ref a_this]) (wX1_isPause cB cI cZ a_this a_sections a_controls a_tracks a_indexes v_entries v_start v_indexes v_sections) C hw (ct_X1_entryFor l D cB cI cZ tw a_this a_sections a_controls a_tracks a_indexes v_entries v_start v_sections x1 r_1 hq_2) cal_X1_entryFor tw_501 (q0 := 0) rfl rfl [0, 2] [1] 3 [(a_indexes, .inl (cI, 20, .inl v_indexes))] rfl rfl rfl rfl rfl rfl rfl rfl rfl rfl rfl (Nat.le_of_ble_eq_true rfl) hl.1 ⟨Nat.le_of_ble_eq_true rfl, Nat.le_of_ble_eq_true rfl⟩ ⟨Nat.zero_le _, Nat.zero_le _⟩ dX1_isPause_3 (fun H locs hw => ?_)
  obtain ⟨r_3, hq_4, h⟩ := ob1_at h
  refine x_callV (pc := 6) (rest := []) (stk := [.int r_3]) (wX1_isPause cB cI cZ a_this a_sections a_controls a_tracks a_indexes v_entries v_start v_indexes v_sections) C hw (ct_X1_indexOf l D cB cI cZ tw a_this a_sections a_controls a_tracks a_indexes v_entries v_start v_indexes r_1 r_3 hq_4) cal_X1_indexOf tw_516 (q0 := 0) rfl rfl [0, 1] [2] 3 [(a_sections, .inl (cI, 20, .inl v_sections))] rfl rfl rfl rfl rfl rfl rfl rfl rfl rfl rfl (Nat.le_of_ble_eq_true rfl) hl.1 ⟨Nat.le_of_ble_eq_true rfl, Nat.le_of_ble_eq_true rfl⟩ ⟨Nat.zero_le _, Nat.zero_le _⟩ dX1_isPause_6 (fun H locs hw => ?_)
  refine lv_if_ne (pc := 9) (tgt := 16) hx hb dX1_isPause_9 (by decide) (fun hc_5 => ?_) (fun hc_5 => ?_)
  · have h := iff' hc_5 h
    refine lv_iconst (pc := 16) (v := 0) hx hb dX1_isPause_16 (by decide) ?_
    exact x_zret (pc := 17) (v := 0) C (Option.some.inj h) rfl rfl hw dX1_isPause_17
  · have h := ift hc_5 h
    refine lv_iconst (pc := 12) (v := 1) hx hb dX1_isPause_12 (by decide) ?_
    refine lv_goto (pc := 13) (tgt := 17) hx hb dX1_isPause_13 (by decide) ?_
    exact x_zret (pc := 17) (v := 1) C (Option.some.inj h) rfl rfl hw dX1_isPause_17
def wX1_belongs (cB cI cZ : ClassId) (a_this : Nat) (a_sections : Nat) (a_controls : Nat) (a_tracks : Nat) (a_indexes : Nat) (v_entries : Int32) (v_start : Int32) (v_indexes : Nat → Int32) (v_tracks : Nat → Int32) : va_W := [oX1 a_this a_sections a_controls a_tracks a_indexes v_entries v_start, (a_indexes, .inl (cI, 20, .inl v_indexes)), (a_tracks, .inl (cI, 20, .inl v_tracks))]
def fX1_belongs (v_indexes : Nat → Int32) (v_tracks : Nat → Int32) (x1 : Int32) (x2 : Int32) : Option (Int32) := ob1 (fX1_trackOf v_tracks x1) fun r_1 => ob1 (fX1_trackOf v_tracks x2) fun r_3 => if r_1 = r_3 then ob1 (fX1_indexOf v_indexes x1) fun r_6 => jk (fun (t_8 : Int32) => ob1 (fX1_indexOf v_indexes x2) fun r_10 => jk (fun (t_12 : Int32) => if t_8 = t_12 then some 1 else some 0) fun j39_13 => if r_10 = 0 then j39_13 1 else j39_13 0) fun j26_9 => if r_6 = 0 then j26_9 1 else j26_9 0 else some 0
set_option maxHeartbeats 4000000 in
set_option maxRecDepth 100000 in
theorem ct_X1_belongs (l : Launch) (D : va_G) (cB cI cZ : ClassId) (tw : Nat) (a_this : Nat) (a_sections : Nat) (a_controls : Nat) (a_tracks : Nat) (a_indexes : Nat) (v_entries : Int32) (v_start : Int32) (v_indexes : Nat → Int32) (v_tracks : Nat → Int32) (x1 : Int32) (x2 : Int32) (res : Int32) (h : fX1_belongs v_indexes v_tracks x1 x2 = some res) : Ctr l yX1_belongs cX1_belongs 3 (some .boolean) (rmK 2 41) D (tyL cB cI cZ) tw [.ref a_this, .int x1, .int x2] (wX1_belongs cB cI cZ a_this a_sections a_controls a_tracks a_indexes v_entries v_start v_indexes v_tracks) (fun res : Int32 => some (.int res)) (fun res : Int32 => (wX1_belongs cB cI cZ a_this a_sections a_controls a_tracks a_indexes v_entries v_start v_indexes v_tracks)) res := by
  refine ctr_of RX1 (by decide) rfl (Nat.le_of_ble_eq_true rfl) ?_
  intro p e s m below meth c A C hw ls hl
  have hx := C.1
  have hb := C.2.1
  have hl : lv_has ls 3 [(0, .ref a_this), (1, .int x1), (2, .int x2)] := hl
  unfold fX1_belongs at h
  refine lv_aload_n (pc := 0) hx hb dX1_belongs_0 rfl (lv_at hl 0 rfl) ?_
  refine lv_iload_n (pc := 1) hx hb dX1_belongs_1 rfl (lv_at hl 1 rfl) ?_
  obtain ⟨r_1, hq_2, h⟩ := ob1_at h
  refine x_callV (pc := 2) (rest := []) (stk := [.int r_1]) (wX1_belongs cB cI cZ a_this a_sections a_controls a_tracks a_indexes v_entries v_start v_indexes v_tracks) C hw (ct_X1_trackOf l D cB cI cZ tw a_this a_sections a_controls a_tracks a_indexes v_entries v_start v_tracks x1 r_1 hq_2) cal_X1_trackOf tw_512 (q0 := 0) rfl rfl [0, 2] [1] 3 [(a_indexes, .inl (cI, 20, .inl v_indexes))] rfl rfl rfl rfl rfl rfl rfl rfl rfl rfl rfl (Nat.le_of_ble_eq_true rfl) hl.1 ⟨Nat.le_of_ble_eq_true rfl, Nat.le_of_ble_eq_true rfl⟩ ⟨Nat.zero_le _, Nat.zero_le _⟩ dX1_belongs_2 (fun H locs hw => ?_)
  refine lv_aload_n (pc := 5) hx hb dX1_belongs_5 rfl (lv_at hl 0 rfl) ?_
  refine lv_iload_n (pc := 6) hx hb dX1_belongs_6 rfl (lv_at hl 2 rfl) ?_
  obtain ⟨r_3, hq_4, h⟩ := ob1_at h
  refine x_callV (pc := 7) (rest := [.int r_1]) (stk := [.int r_3, .int r_1]) (wX1_belongs cB cI cZ a_this a_sections a_controls a_tracks a_indexes v_entries v_start v_indexes v_tracks) C hw (ct_X1_trackOf l D cB cI cZ tw a_this a_sections a_controls a_tracks a_indexes v_entries v_start v_tracks x2 r_3 hq_4) cal_X1_trackOf tw_512 (q0 := 0) rfl rfl [0, 2] [1] 3 [(a_indexes, .inl (cI, 20, .inl v_indexes))] rfl rfl rfl rfl rfl rfl rfl rfl rfl rfl rfl (Nat.le_of_ble_eq_true rfl) hl.1 ⟨Nat.le_of_ble_eq_true rfl, Nat.le_of_ble_eq_true rfl⟩ ⟨Nat.zero_le _, Nat.zero_le _⟩ dX1_belongs_7 (fun H locs hw => ?_)
  refine lv_icmp_ne (pc := 10) (tgt := 46) hx hb dX1_belongs_10 (by decide) (fun hc_5 => ?_) (fun hc_5 => ?_)
  · have h := iff' hc_5 h
    refine lv_iconst (pc := 46) (v := 0) hx hb dX1_belongs_46 (by decide) ?_
    exact x_zret (pc := 47) (v := 0) C (Option.some.inj h) rfl rfl hw dX1_belongs_47
  · have h := ift hc_5 h
    refine lv_aload_n (pc := 13) hx hb dX1_belongs_13 rfl (lv_at hl 0 rfl) ?_
    refine lv_iload_n (pc := 14) hx hb dX1_belongs_14 rfl (lv_at hl 1 rfl) ?_
    obtain ⟨r_6, hq_7, h⟩ := ob1_at h
    refine x_callV (pc := 15) (rest := []) (stk := [.int r_6]) (wX1_belongs cB cI cZ a_this a_sections a_controls a_tracks a_indexes v_entries v_start v_indexes v_tracks) C hw (ct_X1_indexOf l D cB cI cZ tw a_this a_sections a_controls a_tracks a_indexes v_entries v_start v_indexes x1 r_6 hq_7) cal_X1_indexOf tw_516 (q0 := 0) rfl rfl [0, 1] [2] 3 [(a_tracks, .inl (cI, 20, .inl v_tracks))] rfl rfl rfl rfl rfl rfl rfl rfl rfl rfl rfl (Nat.le_of_ble_eq_true rfl) hl.1 ⟨Nat.le_of_ble_eq_true rfl, Nat.le_of_ble_eq_true rfl⟩ ⟨Nat.zero_le _, Nat.zero_le _⟩ dX1_belongs_15 (fun H locs hw => ?_)
    obtain ⟨j26_9, ej26_9, h⟩ := jk_at h
    have J26_9 : ∀ (t_8 : Int32) (ls : Array Slot) (H : Heap) (locs : List Loc), lv_has ls 3 [(0, .ref a_this), (2, .int x2)] → Wd D A s (wX1_belongs cB cI cZ a_this a_sections a_controls a_tracks a_indexes v_entries v_start v_indexes v_tracks) H locs → j26_9 t_8 = some res → W p l e (rmK 2 41) s m ([.ref a_this, .int x1, .int x2] : List Value).toArray below meth c H locs 0 0 (MQ below (QG D (tyL cB cI cZ) A (fun res : Int32 => some (.int res)) (fun res : Int32 => (wX1_belongs cB cI cZ a_this a_sections a_controls a_tracks a_indexes v_entries v_start v_indexes v_tracks)) res) ([.ref a_this, .int x1, .int x2] : List Value).toArray s 0 0 A) (F0 m 26 ls [.int t_8]) := by
      intro t_8 ls H locs hl hw h
      have h := k1_at ej26_9 h
      refine lv_aload_n (pc := 26) hx hb dX1_belongs_26 rfl (lv_at hl 0 rfl) ?_
      refine lv_iload_n (pc := 27) hx hb dX1_belongs_27 rfl (lv_at hl 1 rfl) ?_
      obtain ⟨r_10, hq_11, h⟩ := ob1_at h
      refine x_callV (pc := 28) (rest := [.int t_8]) (stk := [.int r_10, .int t_8]) (wX1_belongs cB cI cZ a_this a_sections a_controls a_tracks a_indexes v_entries v_start v_indexes v_tracks) C hw (ct_X1_indexOf l D cB cI cZ tw a_this a_sections a_controls a_tracks a_indexes v_entries v_start v_indexes x2 r_10 hq_11) cal_X1_indexOf tw_516 (q0 := 0) rfl rfl [0, 1] [2] 3 [(a_tracks, .inl (cI, 20, .inl v_tracks))] rfl rfl rfl rfl rfl rfl rfl rfl rfl rfl rfl (Nat.le_of_ble_eq_true rfl) hl.1 ⟨Nat.le_of_ble_eq_true rfl, Nat.le_of_ble_eq_true rfl⟩ ⟨Nat.zero_le _, Nat.zero_le _⟩ dX1_belongs_28 (fun H locs hw => ?_)
      obtain ⟨j39_13, ej39_13, h⟩ := jk_at h
      have J39_13 : ∀ (t_12 : Int32) (ls : Array Slot) (H : Heap) (locs : List Loc), lv_has ls 3 [] → Wd D A s (wX1_belongs cB cI cZ a_this a_sections a_controls a_tracks a_indexes v_entries v_start v_indexes v_tracks) H locs → j39_13 t_12 = some res → W p l e (rmK 2 41) s m ([.ref a_this, .int x1, .int x2] : List Value).toArray below meth c H locs 0 0 (MQ below (QG D (tyL cB cI cZ) A (fun res : Int32 => some (.int res)) (fun res : Int32 => (wX1_belongs cB cI cZ a_this a_sections a_controls a_tracks a_indexes v_entries v_start v_indexes v_tracks)) res) ([.ref a_this, .int x1, .int x2] : List Value).toArray s 0 0 A) (F0 m 39 ls [.int t_12, .int t_8]) := by
        intro t_12 ls H locs hl hw h
        have h := k1_at ej39_13 h
        refine lv_icmp_ne (pc := 39) (tgt := 46) hx hb dX1_belongs_39 (by decide) (fun hc_14 => ?_) (fun hc_14 => ?_)
        · have h := iff' hc_14 h
          refine lv_iconst (pc := 46) (v := 0) hx hb dX1_belongs_46 (by decide) ?_
          exact x_zret (pc := 47) (v := 0) C (Option.some.inj h) rfl rfl hw dX1_belongs_47
        · have h := ift hc_14 h
          refine lv_iconst (pc := 42) (v := 1) hx hb dX1_belongs_42 (by decide) ?_
          refine lv_goto (pc := 43) (tgt := 47) hx hb dX1_belongs_43 (by decide) ?_
          exact x_zret (pc := 47) (v := 1) C (Option.some.inj h) rfl rfl hw dX1_belongs_47
      refine lv_if_ne (pc := 31) (tgt := 38) hx hb dX1_belongs_31 (by decide) (fun hc_15 => ?_) (fun hc_15 => ?_)
      · have h := iff' hc_15 h
        refine lv_iconst (pc := 38) (v := 0) hx hb dX1_belongs_38 (by decide) ?_
        exact J39_13 0 ls _ _ (lv_sub hl [] rfl) hw h
      · have h := ift hc_15 h
        refine lv_iconst (pc := 34) (v := 1) hx hb dX1_belongs_34 (by decide) ?_
        refine lv_goto (pc := 35) (tgt := 39) hx hb dX1_belongs_35 (by decide) ?_
        exact J39_13 1 ls _ _ (lv_sub hl [] rfl) hw h
    refine lv_if_ne (pc := 18) (tgt := 25) hx hb dX1_belongs_18 (by decide) (fun hc_16 => ?_) (fun hc_16 => ?_)
    · have h := iff' hc_16 h
      refine lv_iconst (pc := 25) (v := 0) hx hb dX1_belongs_25 (by decide) ?_
      exact J26_9 0 ls _ _ (lv_sub hl [0, 2] rfl) hw h
    · have h := ift hc_16 h
      refine lv_iconst (pc := 21) (v := 1) hx hb dX1_belongs_21 (by decide) ?_
      refine lv_goto (pc := 22) (tgt := 26) hx hb dX1_belongs_22 (by decide) ?_
      exact J26_9 1 ls _ _ (lv_sub hl [0, 2] rfl) hw h
def wX1_timeOf (cB cI cZ : ClassId) (a_this : Nat) (a_sections : Nat) (a_controls : Nat) (a_tracks : Nat) (a_indexes : Nat) (v_entries : Int32) (v_start : Int32) (v_indexes : Nat → Int32) (v_sections : Nat → Int32) (v_tracks : Nat → Int32) : va_W := [oX1 a_this a_sections a_controls a_tracks a_indexes v_entries v_start, (a_indexes, .inl (cI, 20, .inl v_indexes)), (a_sections, .inl (cI, 20, .inl v_sections)), (a_tracks, .inl (cI, 20, .inl v_tracks))]
def fX1_timeOf_L57 (v_entries : Int32) (v_sections : Nat → Int32) (v_indexes : Nat → Int32) (v_tracks : Nat → Int32) (r_1 : Int32) : Nat → Int32 → Int32 → Option (Int32)
  | 0, _, _ => none
  | F57_9 + 1, x5_7, x4_8 => if x5_7 < 0 then some x4_8 else ob1 (fX1_entryFor v_entries v_sections x5_7) fun r_11 => ob1 (fX1_belongs v_indexes v_tracks r_1 r_11) fun r_13 => if r_13 = 0 then some x4_8 else nm (x4_8 + 1 : Int32) fun x4_16 => nm (x5_7 + (-1) : Int32) fun x5_17 => fX1_timeOf_L57 v_entries v_sections v_indexes v_tracks r_1 F57_9 x5_17 x4_16
def fX1_timeOf_L20 (x2 : Int32) (v_entries : Int32) (v_sections : Nat → Int32) (v_indexes : Nat → Int32) (v_tracks : Nat → Int32) (r_1 : Int32) : Nat → Int32 → Int32 → Option (Int32)
  | 0, _, _ => none
  | F20_20 + 1, x5_18, x4_19 => if x2 ≤ x5_18 then some x4_19 else ob1 (fX1_entryFor v_entries v_sections x5_18) fun r_22 => ob1 (fX1_belongs v_indexes v_tracks r_1 r_22) fun r_24 => if r_24 = 0 then some x4_19 else nm (x4_19 + 1 : Int32) fun x4_27 => nm (x5_18 + 1 : Int32) fun x5_28 => fX1_timeOf_L20 x2 v_entries v_sections v_indexes v_tracks r_1 F20_20 x5_28 x4_27
def fX1_timeOf (v_entries : Int32) (v_indexes : Nat → Int32) (v_sections : Nat → Int32) (v_tracks : Nat → Int32) (x1 : Int32) (x2 : Int32) : Option (Int32) := ob1 (fX1_entryFor v_entries v_sections x1) fun r_1 => ob1 (fX1_indexOf v_indexes r_1) fun r_3 => if r_3 = 0 then fX1_timeOf_L20 x2 v_entries v_sections v_indexes v_tracks r_1 FU x1 0 else nm ((x1 - (1 : Int32)) : Int32) fun x5_6 => fX1_timeOf_L57 v_entries v_sections v_indexes v_tracks r_1 FU x5_6 0
set_option maxHeartbeats 4000000 in
set_option maxRecDepth 100000 in
theorem ct_X1_timeOf (l : Launch) (D : va_G) (cB cI cZ : ClassId) (tw : Nat) (a_this : Nat) (a_sections : Nat) (a_controls : Nat) (a_tracks : Nat) (a_indexes : Nat) (v_entries : Int32) (v_start : Int32) (v_indexes : Nat → Int32) (v_sections : Nat → Int32) (v_tracks : Nat → Int32) (x1 : Int32) (x2 : Int32) (res : Int32) (h : fX1_timeOf v_entries v_indexes v_sections v_tracks x1 x2 = some res) : Ctr l yX1_timeOf cX1_timeOf 6 (some .int) (rmK 3 63) D (tyL cB cI cZ) tw [.ref a_this, .int x1, .int x2] (wX1_timeOf cB cI cZ a_this a_sections a_controls a_tracks a_indexes v_entries v_start v_indexes v_sections v_tracks) (fun res : Int32 => some (.int res)) (fun res : Int32 => (wX1_timeOf cB cI cZ a_this a_sections a_controls a_tracks a_indexes v_entries v_start v_indexes v_sections v_tracks)) res := by
  refine ctr_of RX1 (by decide) rfl (Nat.le_of_ble_eq_true rfl) ?_
  intro p e s m below meth c A C hw ls hl
  have hx := C.1
  have hb := C.2.1
  have hl : lv_has ls 6 [(0, .ref a_this), (1, .int x1), (2, .int x2)] := hl
  unfold fX1_timeOf at h
  refine lv_aload_n (pc := 0) hx hb dX1_timeOf_0 rfl (lv_at hl 0 rfl) ?_
  refine lv_iload_n (pc := 1) hx hb dX1_timeOf_1 rfl (lv_at hl 1 rfl) ?_
  obtain ⟨r_1, hq_2, h⟩ := ob1_at h
  refine x_callV (pc := 2) (rest := []) (stk := [.int r_1]) (wX1_timeOf cB cI cZ a_this a_sections a_controls a_tracks a_indexes v_entries v_start v_indexes v_sections v_tracks) C hw (ct_X1_entryFor l D cB cI cZ tw a_this a_sections a_controls a_tracks a_indexes v_entries v_start v_sections x1 r_1 hq_2) cal_X1_entryFor tw_501 (q0 := 0) rfl rfl [0, 2] [1, 3] 4 [(a_indexes, .inl (cI, 20, .inl v_indexes)), (a_tracks, .inl (cI, 20, .inl v_tracks))] rfl rfl rfl rfl rfl rfl rfl rfl rfl rfl rfl (Nat.le_of_ble_eq_true rfl) hl.1 ⟨Nat.le_of_ble_eq_true rfl, Nat.le_of_ble_eq_true rfl⟩ ⟨Nat.zero_le _, Nat.zero_le _⟩ dX1_timeOf_2 (fun H locs hw => ?_)
  refine lv_istore_n (pc := 5) (lv' := [(3, .int r_1), (0, .ref a_this), (1, .int x1), (2, .int x2)]) hx hb dX1_timeOf_5 rfl hl (by decide) rfl (fun ls hl => ?_)
  refine lv_iconst (pc := 6) (v := 0) hx hb dX1_timeOf_6 (by decide) ?_
  refine lv_istore (pc := 7) (lv' := [(4, .int 0), (3, .int r_1), (0, .ref a_this), (1, .int x1), (2, .int x2)]) hx hb dX1_timeOf_7 hl (by decide) rfl (fun ls hl => ?_)
  refine lv_aload_n (pc := 9) hx hb dX1_timeOf_9 rfl (lv_at hl 2 rfl) ?_
  refine lv_iload_n (pc := 10) hx hb dX1_timeOf_10 rfl (lv_at hl 1 rfl) ?_
  obtain ⟨r_3, hq_4, h⟩ := ob1_at h
  refine x_callV (pc := 11) (rest := []) (stk := [.int r_3]) (wX1_timeOf cB cI cZ a_this a_sections a_controls a_tracks a_indexes v_entries v_start v_indexes v_sections v_tracks) C hw (ct_X1_indexOf l D cB cI cZ tw a_this a_sections a_controls a_tracks a_indexes v_entries v_start v_indexes r_1 r_3 hq_4) cal_X1_indexOf tw_516 (q0 := 0) rfl rfl [0, 1] [2, 3] 4 [(a_sections, .inl (cI, 20, .inl v_sections)), (a_tracks, .inl (cI, 20, .inl v_tracks))] rfl rfl rfl rfl rfl rfl rfl rfl rfl rfl rfl (Nat.le_of_ble_eq_true rfl) hl.1 ⟨Nat.le_of_ble_eq_true rfl, Nat.le_of_ble_eq_true rfl⟩ ⟨Nat.zero_le _, Nat.zero_le _⟩ dX1_timeOf_11 (fun H locs hw => ?_)
  refine lv_if_ne (pc := 14) (tgt := 52) hx hb dX1_timeOf_14 (by decide) (fun hc_5 => ?_) (fun hc_5 => ?_)
  · have h := iff' hc_5 h
    refine lv_iload_n (pc := 52) hx hb dX1_timeOf_52 rfl (lv_at hl 3 rfl) ?_
    refine lv_iconst (pc := 53) (v := 1) hx hb dX1_timeOf_53 (by decide) ?_
    refine lv_isub (pc := 54) hx hb dX1_timeOf_54 ?_
    refine lv_topi (pc := 55) (fun x5_6 ex5_6 => ?_)
    have h := nm_at ex5_6 h
    refine lv_istore (pc := 55) (lv' := [(5, .int x5_6), (4, .int 0), (3, .int r_1), (0, .ref a_this), (1, .int x1), (2, .int x2)]) hx hb dX1_timeOf_55 hl (by decide) rfl (fun ls hl => ?_)
    have Lih57_9 : ∀ (F : Nat) (x5_7 : Int32) (x4_8 : Int32) (ls : Array Slot) (H : Heap) (locs : List Loc), lv_has ls 6 [(5, .int x5_7), (4, .int x4_8), (3, .int r_1), (0, .ref a_this)] → Wd D A s (wX1_timeOf cB cI cZ a_this a_sections a_controls a_tracks a_indexes v_entries v_start v_indexes v_sections v_tracks) H locs → fX1_timeOf_L57 v_entries v_sections v_indexes v_tracks r_1 F x5_7 x4_8 = some res → W p l e (rmK 3 63) s m ([.ref a_this, .int x1, .int x2] : List Value).toArray below meth c H locs 0 0 (MQ below (QG D (tyL cB cI cZ) A (fun res : Int32 => some (.int res)) (fun res : Int32 => (wX1_timeOf cB cI cZ a_this a_sections a_controls a_tracks a_indexes v_entries v_start v_indexes v_sections v_tracks)) res) ([.ref a_this, .int x1, .int x2] : List Value).toArray s 0 0 A) (F0 m 57 ls []) := by
      intro F
      induction F with
      | zero => intro x5_7 x4_8 ls H locs hl hw h; rw [fX1_timeOf_L57.eq_1] at h; cases h
      | succ F57_9 ih57_9 =>
        intro x5_7 x4_8 ls H locs hl hw h
        rw [fX1_timeOf_L57.eq_2] at h
        refine lv_iload (pc := 57) hx hb dX1_timeOf_57 (lv_at hl 0 rfl) ?_
        refine lv_if_lt (pc := 59) (tgt := 85) hx hb dX1_timeOf_59 (by decide) (fun hc_10 => ?_) (fun hc_10 => ?_)
        · have h := ift hc_10 h
          refine lv_iload (pc := 85) hx hb dX1_timeOf_85 (lv_at hl 1 rfl) ?_
          exact x_iret (pc := 87) (v := x4_8) C (Option.some.inj h) rfl hw dX1_timeOf_87
        · have h := iff' hc_10 h
          refine lv_aload_n (pc := 62) hx hb dX1_timeOf_62 rfl (lv_at hl 3 rfl) ?_
          refine lv_iload_n (pc := 63) hx hb dX1_timeOf_63 rfl (lv_at hl 2 rfl) ?_
          refine lv_aload_n (pc := 64) hx hb dX1_timeOf_64 rfl (lv_at hl 3 rfl) ?_
          refine lv_iload (pc := 65) hx hb dX1_timeOf_65 (lv_at hl 0 rfl) ?_
          obtain ⟨r_11, hq_12, h⟩ := ob1_at h
          refine x_callV (pc := 67) (rest := [.int r_1, .ref a_this]) (stk := [.int r_11, .int r_1, .ref a_this]) (wX1_timeOf cB cI cZ a_this a_sections a_controls a_tracks a_indexes v_entries v_start v_indexes v_sections v_tracks) C hw (ct_X1_entryFor l D cB cI cZ tw a_this a_sections a_controls a_tracks a_indexes v_entries v_start v_sections x5_7 r_11 hq_12) cal_X1_entryFor tw_501 (q0 := 0) rfl rfl [0, 2] [1, 3] 4 [(a_indexes, .inl (cI, 20, .inl v_indexes)), (a_tracks, .inl (cI, 20, .inl v_tracks))] rfl rfl rfl rfl rfl rfl rfl rfl rfl rfl rfl (Nat.le_of_ble_eq_true rfl) hl.1 ⟨Nat.le_of_ble_eq_true rfl, Nat.le_of_ble_eq_true rfl⟩ ⟨Nat.zero_le _, Nat.zero_le _⟩ dX1_timeOf_67 (fun H locs hw => ?_)
          obtain ⟨r_13, hq_14, h⟩ := ob1_at h
          refine x_callV (pc := 70) (rest := []) (stk := [.int r_13]) (wX1_timeOf cB cI cZ a_this a_sections a_controls a_tracks a_indexes v_entries v_start v_indexes v_sections v_tracks) C hw (ct_X1_belongs l D cB cI cZ tw a_this a_sections a_controls a_tracks a_indexes v_entries v_start v_indexes v_tracks r_1 r_11 r_13 hq_14) cal_X1_belongs tw_524 (q0 := 0) rfl rfl [0, 1, 3] [2] 4 [(a_sections, .inl (cI, 20, .inl v_sections))] rfl rfl rfl rfl rfl rfl rfl rfl rfl rfl rfl (Nat.le_of_ble_eq_true rfl) hl.1 ⟨Nat.le_of_ble_eq_true rfl, Nat.le_of_ble_eq_true rfl⟩ ⟨Nat.zero_le _, Nat.zero_le _⟩ dX1_timeOf_70 (fun H locs hw => ?_)
          refine lv_if_eq (pc := 73) (tgt := 85) hx hb dX1_timeOf_73 (by decide) (fun hc_15 => ?_) (fun hc_15 => ?_)
          · have h := ift hc_15 h
            refine lv_iload (pc := 85) hx hb dX1_timeOf_85 (lv_at hl 1 rfl) ?_
            exact x_iret (pc := 87) (v := x4_8) C (Option.some.inj h) rfl hw dX1_timeOf_87
          · have h := iff' hc_15 h
            obtain ⟨x4_16, ex4_16⟩ : ∃ y : Int32, y = x4_8 + 1 := ⟨_, rfl⟩
            have h := nm_at ex4_16 h
            refine lv_iinc (pc := 76) (v := x4_16) (lv' := [(4, .int x4_16), (5, .int x5_7), (3, .int r_1), (0, .ref a_this)]) hx hb dX1_timeOf_76 hl (k := 1) rfl (by rw [ex4_16]; rfl) (by decide) rfl (fun ls hl => ?_)
            obtain ⟨x5_17, ex5_17⟩ : ∃ y : Int32, y = x5_7 + (-1) := ⟨_, rfl⟩
            have h := nm_at ex5_17 h
            refine lv_iinc (pc := 79) (v := x5_17) (lv' := [(5, .int x5_17), (4, .int x4_16), (3, .int r_1), (0, .ref a_this)]) hx hb dX1_timeOf_79 hl (k := 1) rfl (by rw [ex5_17]; rfl) (by decide) rfl (fun ls hl => ?_)
            refine lv_goto (pc := 82) (tgt := 57) hx hb dX1_timeOf_82 (by decide) ?_
            exact ih57_9 x5_17 x4_16 ls _ _ (lv_sub hl [0, 1, 2, 3] rfl) hw h
    exact Lih57_9 FU x5_6 0 ls _ _ (lv_sub hl [0, 1, 2, 3] rfl) hw h
  · have h := ift hc_5 h
    refine lv_iload_n (pc := 17) hx hb dX1_timeOf_17 rfl (lv_at hl 3 rfl) ?_
    refine lv_istore (pc := 18) (lv' := [(5, .int x1), (4, .int 0), (3, .int r_1), (0, .ref a_this), (1, .int x1), (2, .int x2)]) hx hb dX1_timeOf_18 hl (by decide) rfl (fun ls hl => ?_)
    have Lih20_20 : ∀ (F : Nat) (x5_18 : Int32) (x4_19 : Int32) (ls : Array Slot) (H : Heap) (locs : List Loc), lv_has ls 6 [(5, .int x5_18), (4, .int x4_19), (3, .int r_1), (0, .ref a_this), (2, .int x2)] → Wd D A s (wX1_timeOf cB cI cZ a_this a_sections a_controls a_tracks a_indexes v_entries v_start v_indexes v_sections v_tracks) H locs → fX1_timeOf_L20 x2 v_entries v_sections v_indexes v_tracks r_1 F x5_18 x4_19 = some res → W p l e (rmK 3 63) s m ([.ref a_this, .int x1, .int x2] : List Value).toArray below meth c H locs 0 0 (MQ below (QG D (tyL cB cI cZ) A (fun res : Int32 => some (.int res)) (fun res : Int32 => (wX1_timeOf cB cI cZ a_this a_sections a_controls a_tracks a_indexes v_entries v_start v_indexes v_sections v_tracks)) res) ([.ref a_this, .int x1, .int x2] : List Value).toArray s 0 0 A) (F0 m 20 ls []) := by
      intro F
      induction F with
      | zero => intro x5_18 x4_19 ls H locs hl hw h; rw [fX1_timeOf_L20.eq_1] at h; cases h
      | succ F20_20 ih20_20 =>
        intro x5_18 x4_19 ls H locs hl hw h
        rw [fX1_timeOf_L20.eq_2] at h
        refine lv_iload (pc := 20) hx hb dX1_timeOf_20 (lv_at hl 0 rfl) ?_
        refine lv_iload_n (pc := 22) hx hb dX1_timeOf_22 rfl (lv_at hl 4 rfl) ?_
        refine lv_icmp_ge (pc := 23) (tgt := 49) hx hb dX1_timeOf_23 (by decide) (fun hc_21 => ?_) (fun hc_21 => ?_)
        · have h := ift hc_21 h
          refine lv_goto (pc := 49) (tgt := 85) hx hb dX1_timeOf_49 (by decide) ?_
          refine lv_iload (pc := 85) hx hb dX1_timeOf_85 (lv_at hl 1 rfl) ?_
          exact x_iret (pc := 87) (v := x4_19) C (Option.some.inj h) rfl hw dX1_timeOf_87
        · have h := iff' hc_21 h
          refine lv_aload_n (pc := 26) hx hb dX1_timeOf_26 rfl (lv_at hl 3 rfl) ?_
          refine lv_iload_n (pc := 27) hx hb dX1_timeOf_27 rfl (lv_at hl 2 rfl) ?_
          refine lv_aload_n (pc := 28) hx hb dX1_timeOf_28 rfl (lv_at hl 3 rfl) ?_
          refine lv_iload (pc := 29) hx hb dX1_timeOf_29 (lv_at hl 0 rfl) ?_
          obtain ⟨r_22, hq_23, h⟩ := ob1_at h
          refine x_callV (pc := 31) (rest := [.int r_1, .ref a_this]) (stk := [.int r_22, .int r_1, .ref a_this]) (wX1_timeOf cB cI cZ a_this a_sections a_controls a_tracks a_indexes v_entries v_start v_indexes v_sections v_tracks) C hw (ct_X1_entryFor l D cB cI cZ tw a_this a_sections a_controls a_tracks a_indexes v_entries v_start v_sections x5_18 r_22 hq_23) cal_X1_entryFor tw_501 (q0 := 0) rfl rfl [0, 2] [1, 3] 4 [(a_indexes, .inl (cI, 20, .inl v_indexes)), (a_tracks, .inl (cI, 20, .inl v_tracks))] rfl rfl rfl rfl rfl rfl rfl rfl rfl rfl rfl (Nat.le_of_ble_eq_true rfl) hl.1 ⟨Nat.le_of_ble_eq_true rfl, Nat.le_of_ble_eq_true rfl⟩ ⟨Nat.zero_le _, Nat.zero_le _⟩ dX1_timeOf_31 (fun H locs hw => ?_)
          obtain ⟨r_24, hq_25, h⟩ := ob1_at h
          refine x_callV (pc := 34) (rest := []) (stk := [.int r_24]) (wX1_timeOf cB cI cZ a_this a_sections a_controls a_tracks a_indexes v_entries v_start v_indexes v_sections v_tracks) C hw (ct_X1_belongs l D cB cI cZ tw a_this a_sections a_controls a_tracks a_indexes v_entries v_start v_indexes v_tracks r_1 r_22 r_24 hq_25) cal_X1_belongs tw_524 (q0 := 0) rfl rfl [0, 1, 3] [2] 4 [(a_sections, .inl (cI, 20, .inl v_sections))] rfl rfl rfl rfl rfl rfl rfl rfl rfl rfl rfl (Nat.le_of_ble_eq_true rfl) hl.1 ⟨Nat.le_of_ble_eq_true rfl, Nat.le_of_ble_eq_true rfl⟩ ⟨Nat.zero_le _, Nat.zero_le _⟩ dX1_timeOf_34 (fun H locs hw => ?_)
          refine lv_if_eq (pc := 37) (tgt := 49) hx hb dX1_timeOf_37 (by decide) (fun hc_26 => ?_) (fun hc_26 => ?_)
          · have h := ift hc_26 h
            refine lv_goto (pc := 49) (tgt := 85) hx hb dX1_timeOf_49 (by decide) ?_
            refine lv_iload (pc := 85) hx hb dX1_timeOf_85 (lv_at hl 1 rfl) ?_
            exact x_iret (pc := 87) (v := x4_19) C (Option.some.inj h) rfl hw dX1_timeOf_87
          · have h := iff' hc_26 h
            obtain ⟨x4_27, ex4_27⟩ : ∃ y : Int32, y = x4_19 + 1 := ⟨_, rfl⟩
            have h := nm_at ex4_27 h
            refine lv_iinc (pc := 40) (v := x4_27) (lv' := [(4, .int x4_27), (5, .int x5_18), (3, .int r_1), (0, .ref a_this), (2, .int x2)]) hx hb dX1_timeOf_40 hl (k := 1) rfl (by rw [ex4_27]; rfl) (by decide) rfl (fun ls hl => ?_)
            obtain ⟨x5_28, ex5_28⟩ : ∃ y : Int32, y = x5_18 + 1 := ⟨_, rfl⟩
            have h := nm_at ex5_28 h
            refine lv_iinc (pc := 43) (v := x5_28) (lv' := [(5, .int x5_28), (4, .int x4_27), (3, .int r_1), (0, .ref a_this), (2, .int x2)]) hx hb dX1_timeOf_43 hl (k := 1) rfl (by rw [ex5_28]; rfl) (by decide) rfl (fun ls hl => ?_)
            refine lv_goto (pc := 46) (tgt := 20) hx hb dX1_timeOf_46 (by decide) ?_
            exact ih20_20 x5_28 x4_27 ls _ _ (lv_sub hl [0, 1, 2, 3, 4] rfl) hw h
    exact Lih20_20 FU x1 0 ls _ _ (lv_sub hl [0, 1, 2, 3, 5] rfl) hw h
def wX1_describe (cB cI cZ : ClassId) (a_this : Nat) (a_sections : Nat) (a_controls : Nat) (a_tracks : Nat) (a_indexes : Nat) (a_arg3 : Nat) (a_arg3_octets : Nat) (v_entries : Int32) (v_start : Int32) (v_controls : Nat → Int32) (v_indexes : Nat → Int32) (v_sections : Nat → Int32) (v_tracks : Nat → Int32) (v_arg3_octets : Nat → Int32) : va_W := [oX1 a_this a_sections a_controls a_tracks a_indexes v_entries v_start, (a_controls, .inl (cI, 20, .inl v_controls)), (a_indexes, .inl (cI, 20, .inl v_indexes)), (a_sections, .inl (cI, 20, .inl v_sections)), (a_tracks, .inl (cI, 20, .inl v_tracks)), oX4 a_arg3 a_arg3_octets, (a_arg3_octets, .inl (cI, 12, .inl v_arg3_octets))]
def fX1_describe (v_entries : Int32) (v_start : Int32) (v_controls : Nat → Int32) (v_indexes : Nat → Int32) (v_sections : Nat → Int32) (v_tracks : Nat → Int32) (v_arg3_octets : Nat → Int32) (x1 : Int32) (x2 : Int32) : Option ((Nat → Int32)) := ob1 (fX1_entryFor v_entries v_sections x1) fun r_1 => ob1 (fX1_controlOf v_controls r_1) fun r_3 => ob1 (fX1_trackOf v_tracks r_1) fun r_5 => ob1 (fX1_indexOf v_indexes r_1) fun r_7 => ob1 (fX1_timeOf v_entries v_indexes v_sections v_tracks x1 x2) fun r_9 => ob1 (fX4_write v_arg3_octets r_3 r_5 r_7 r_9 (v_start + x1)) fun v_arg3_octets_11 => some v_arg3_octets_11
set_option maxHeartbeats 4000000 in
set_option maxRecDepth 100000 in
theorem ct_X1_describe (l : Launch) (D : va_G) (cB cI cZ : ClassId) (tw : Nat) (a_this : Nat) (a_sections : Nat) (a_controls : Nat) (a_tracks : Nat) (a_indexes : Nat) (a_arg3 : Nat) (a_arg3_octets : Nat) (v_entries : Int32) (v_start : Int32) (v_controls : Nat → Int32) (v_indexes : Nat → Int32) (v_sections : Nat → Int32) (v_tracks : Nat → Int32) (v_arg3_octets : Nat → Int32) (x1 : Int32) (x2 : Int32) (res : (Nat → Int32)) (h : fX1_describe v_entries v_start v_controls v_indexes v_sections v_tracks v_arg3_octets x1 x2 = some res) : Ctr l yX1_describe cX1_describe 5 none (rmK 4 88) D (tyL cB cI cZ) tw [.ref a_this, .int x1, .int x2, .ref a_arg3] (wX1_describe cB cI cZ a_this a_sections a_controls a_tracks a_indexes a_arg3 a_arg3_octets v_entries v_start v_controls v_indexes v_sections v_tracks v_arg3_octets) (fun _ : (Nat → Int32) => none) (fun res : (Nat → Int32) => (wX1_describe cB cI cZ a_this a_sections a_controls a_tracks a_indexes a_arg3 a_arg3_octets v_entries v_start v_controls v_indexes v_sections v_tracks res)) res := by
  refine ctr_of RX1 (by decide) rfl (Nat.le_of_ble_eq_true rfl) ?_
  intro p e s m below meth c A C hw ls hl
  have hx := C.1
  have hb := C.2.1
  have hl : lv_has ls 5 [(0, .ref a_this), (1, .int x1), (2, .int x2), (3, .ref a_arg3)] := hl
  unfold fX1_describe at h
  refine lv_aload_n (pc := 0) hx hb dX1_describe_0 rfl (lv_at hl 0 rfl) ?_
  refine lv_iload_n (pc := 1) hx hb dX1_describe_1 rfl (lv_at hl 1 rfl) ?_
  obtain ⟨r_1, hq_2, h⟩ := ob1_at h
  refine x_callV (pc := 2) (rest := []) (stk := [.int r_1]) (wX1_describe cB cI cZ a_this a_sections a_controls a_tracks a_indexes a_arg3 a_arg3_octets v_entries v_start v_controls v_indexes v_sections v_tracks v_arg3_octets) C hw (ct_X1_entryFor l D cB cI cZ tw a_this a_sections a_controls a_tracks a_indexes v_entries v_start v_sections x1 r_1 hq_2) cal_X1_entryFor tw_501 (q0 := 0) rfl rfl [0, 3] [1, 2, 4, 5, 6] 7 [(a_controls, .inl (cI, 20, .inl v_controls)), (a_indexes, .inl (cI, 20, .inl v_indexes)), (a_tracks, .inl (cI, 20, .inl v_tracks)), oX4 a_arg3 a_arg3_octets, (a_arg3_octets, .inl (cI, 12, .inl v_arg3_octets))] rfl rfl rfl rfl rfl rfl rfl rfl rfl rfl rfl (Nat.le_of_ble_eq_true rfl) hl.1 ⟨Nat.le_of_ble_eq_true rfl, Nat.le_of_ble_eq_true rfl⟩ ⟨Nat.zero_le _, Nat.zero_le _⟩ dX1_describe_2 (fun H locs hw => ?_)
  refine lv_istore (pc := 5) (lv' := [(4, .int r_1), (0, .ref a_this), (1, .int x1), (2, .int x2), (3, .ref a_arg3)]) hx hb dX1_describe_5 hl (by decide) rfl (fun ls hl => ?_)
  refine lv_aload_n (pc := 7) hx hb dX1_describe_7 rfl (lv_at hl 4 rfl) ?_
  refine lv_aload_n (pc := 8) hx hb dX1_describe_8 rfl (lv_at hl 1 rfl) ?_
  refine lv_iload (pc := 9) hx hb dX1_describe_9 (lv_at hl 0 rfl) ?_
  obtain ⟨r_3, hq_4, h⟩ := ob1_at h
  refine x_callV (pc := 11) (rest := [.ref a_arg3]) (stk := [.int r_3, .ref a_arg3]) (wX1_describe cB cI cZ a_this a_sections a_controls a_tracks a_indexes a_arg3 a_arg3_octets v_entries v_start v_controls v_indexes v_sections v_tracks v_arg3_octets) C hw (ct_X1_controlOf l D cB cI cZ tw a_this a_sections a_controls a_tracks a_indexes v_entries v_start v_controls r_1 r_3 hq_4) cal_X1_controlOf tw_505 (q0 := 0) rfl rfl [0, 1] [2, 3, 4, 5, 6] 7 [(a_indexes, .inl (cI, 20, .inl v_indexes)), (a_sections, .inl (cI, 20, .inl v_sections)), (a_tracks, .inl (cI, 20, .inl v_tracks)), oX4 a_arg3 a_arg3_octets, (a_arg3_octets, .inl (cI, 12, .inl v_arg3_octets))] rfl rfl rfl rfl rfl rfl rfl rfl rfl rfl rfl (Nat.le_of_ble_eq_true rfl) hl.1 ⟨Nat.le_of_ble_eq_true rfl, Nat.le_of_ble_eq_true rfl⟩ ⟨Nat.zero_le _, Nat.zero_le _⟩ dX1_describe_11 (fun H locs hw => ?_)
  refine lv_aload_n (pc := 14) hx hb dX1_describe_14 rfl (lv_at hl 1 rfl) ?_
  refine lv_iload (pc := 15) hx hb dX1_describe_15 (lv_at hl 0 rfl) ?_
  obtain ⟨r_5, hq_6, h⟩ := ob1_at h
  refine x_callV (pc := 17) (rest := [.int r_3, .ref a_arg3]) (stk := [.int r_5, .int r_3, .ref a_arg3]) (wX1_describe cB cI cZ a_this a_sections a_controls a_tracks a_indexes a_arg3 a_arg3_octets v_entries v_start v_controls v_indexes v_sections v_tracks v_arg3_octets) C hw (ct_X1_trackOf l D cB cI cZ tw a_this a_sections a_controls a_tracks a_indexes v_entries v_start v_tracks r_1 r_5 hq_6) cal_X1_trackOf tw_512 (q0 := 0) rfl rfl [0, 4] [1, 2, 3, 5, 6] 7 [(a_controls, .inl (cI, 20, .inl v_controls)), (a_indexes, .inl (cI, 20, .inl v_indexes)), (a_sections, .inl (cI, 20, .inl v_sections)), oX4 a_arg3 a_arg3_octets, (a_arg3_octets, .inl (cI, 12, .inl v_arg3_octets))] rfl rfl rfl rfl rfl rfl rfl rfl rfl rfl rfl (Nat.le_of_ble_eq_true rfl) hl.1 ⟨Nat.le_of_ble_eq_true rfl, Nat.le_of_ble_eq_true rfl⟩ ⟨Nat.zero_le _, Nat.zero_le _⟩ dX1_describe_17 (fun H locs hw => ?_)
  refine lv_aload_n (pc := 20) hx hb dX1_describe_20 rfl (lv_at hl 1 rfl) ?_
  refine lv_iload (pc := 21) hx hb dX1_describe_21 (lv_at hl 0 rfl) ?_
  obtain ⟨r_7, hq_8, h⟩ := ob1_at h
  refine x_callV (pc := 23) (rest := [.int r_5, .int r_3, .ref a_arg3]) (stk := [.int r_7, .int r_5, .int r_3, .ref a_arg3]) (wX1_describe cB cI cZ a_this a_sections a_controls a_tracks a_indexes a_arg3 a_arg3_octets v_entries v_start v_controls v_indexes v_sections v_tracks v_arg3_octets) C hw (ct_X1_indexOf l D cB cI cZ tw a_this a_sections a_controls a_tracks a_indexes v_entries v_start v_indexes r_1 r_7 hq_8) cal_X1_indexOf tw_516 (q0 := 0) rfl rfl [0, 2] [1, 3, 4, 5, 6] 7 [(a_controls, .inl (cI, 20, .inl v_controls)), (a_sections, .inl (cI, 20, .inl v_sections)), (a_tracks, .inl (cI, 20, .inl v_tracks)), oX4 a_arg3 a_arg3_octets, (a_arg3_octets, .inl (cI, 12, .inl v_arg3_octets))] rfl rfl rfl rfl rfl rfl rfl rfl rfl rfl rfl (Nat.le_of_ble_eq_true rfl) hl.1 ⟨Nat.le_of_ble_eq_true rfl, Nat.le_of_ble_eq_true rfl⟩ ⟨Nat.zero_le _, Nat.zero_le _⟩ dX1_describe_23 (fun H locs hw => ?_)
  refine lv_aload_n (pc := 26) hx hb dX1_describe_26 rfl (lv_at hl 1 rfl) ?_
  refine lv_iload_n (pc := 27) hx hb dX1_describe_27 rfl (lv_at hl 2 rfl) ?_
  refine lv_iload_n (pc := 28) hx hb dX1_describe_28 rfl (lv_at hl 3 rfl) ?_
  obtain ⟨r_9, hq_10, h⟩ := ob1_at h
  refine x_callV (pc := 29) (rest := [.int r_7, .int r_5, .int r_3, .ref a_arg3]) (stk := [.int r_9, .int r_7, .int r_5, .int r_3, .ref a_arg3]) (wX1_describe cB cI cZ a_this a_sections a_controls a_tracks a_indexes a_arg3 a_arg3_octets v_entries v_start v_controls v_indexes v_sections v_tracks v_arg3_octets) C hw (ct_X1_timeOf l D cB cI cZ tw a_this a_sections a_controls a_tracks a_indexes v_entries v_start v_indexes v_sections v_tracks x1 x2 r_9 hq_10) cal_X1_timeOf tw_520 (q0 := 0) rfl rfl [0, 2, 3, 4] [1, 5, 6] 7 [(a_controls, .inl (cI, 20, .inl v_controls)), oX4 a_arg3 a_arg3_octets, (a_arg3_octets, .inl (cI, 12, .inl v_arg3_octets))] rfl rfl rfl rfl rfl rfl rfl rfl rfl rfl rfl (Nat.le_of_ble_eq_true rfl) hl.1 ⟨Nat.le_of_ble_eq_true rfl, Nat.le_of_ble_eq_true rfl⟩ ⟨Nat.zero_le _, Nat.zero_le _⟩ dX1_describe_29 (fun H locs hw => ?_)
  refine lv_aload_n (pc := 32) hx hb dX1_describe_32 rfl (lv_at hl 1 rfl) ?_
  refine gf_X1_24 (pc := 33) C hw 0 rfl rfl dX1_describe_33 ?_
  refine lv_iload_n (pc := 36) hx hb dX1_describe_36 rfl (lv_at hl 2 rfl) ?_
  refine lv_iadd (pc := 37) hx hb dX1_describe_37 ?_
  obtain ⟨v_arg3_octets_11, hq_12, h⟩ := ob1_at h
  refine x_callV (pc := 38) (rest := []) (stk := []) (wX1_describe cB cI cZ a_this a_sections a_controls a_tracks a_indexes a_arg3 a_arg3_octets v_entries v_start v_controls v_indexes v_sections v_tracks v_arg3_octets_11) C hw (ct_X4_write l D cB cI cZ tw a_arg3 a_arg3_octets v_arg3_octets r_3 r_5 r_7 r_9 (v_start + x1) v_arg3_octets_11 hq_12) cal_X4_write tw_528 (q0 := 5) rfl rfl [5, 6] [0, 1, 2, 3, 4] 7 [oX1 a_this a_sections a_controls a_tracks a_indexes v_entries v_start, (a_controls, .inl (cI, 20, .inl v_controls)), (a_indexes, .inl (cI, 20, .inl v_indexes)), (a_sections, .inl (cI, 20, .inl v_sections)), (a_tracks, .inl (cI, 20, .inl v_tracks))] rfl rfl rfl rfl rfl rfl rfl rfl rfl rfl rfl (Nat.le_of_ble_eq_true rfl) hl.1 ⟨Nat.le_of_ble_eq_true rfl, Nat.le_of_ble_eq_true rfl⟩ ⟨Nat.zero_le _, Nat.zero_le _⟩ dX1_describe_38 (fun H locs hw => ?_)
  exact x_vret (pc := 41) (v := v_arg3_octets_11) C (Option.some.inj h) rfl hw dX1_describe_41
