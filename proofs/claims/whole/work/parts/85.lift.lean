/-! ===== the octets of the player's label stay bytes ===== -/
def InvQ (n : Nat) (xi : Nat → Int32) (xa : Nat → Nat → Int32) (xl : Int64) (mi : Nat → Int32) (ma : Nat → Nat → Int32) : Prop := Inv n xi xa xl mi ma ∧ ∀ j, j < 12 → ∀ i, i < 32 → 8 ≤ i → bt (xa 21 j) i = false
theorem InvQ_mono (n : Nat) (xi : Nat → Int32) (xa : Nat → Nat → Int32) (xl : Int64) (mi : Nat → Int32) (ma : Nat → Nat → Int32) (hn : n < 64) (h : InvQ n xi xa xl mi ma) : InvQ (n + 1) xi xa xl mi ma := ⟨Inv.mono n xi xa xl mi ma hn h.1, h.2⟩
theorem lf0 (H : OP0 Inv) : OP0 InvQ := fun n xi xa xl mi ma y0 y1 hn h  => by
  obtain ⟨e0, e1, e2, e3, e4, e5, e6, p0, p1, p2, pl⟩ := H n xi xa xl mi ma y0 y1 hn h.1 
  exact ⟨e0, e1, e2, e3, e4, e5, e6, p0, p1, p2, ⟨pl, h.2⟩⟩
theorem lf1 (H : OP1 Inv) : OP1 InvQ := fun n xi xa xl mi ma y0 y1 hn h  => by
  obtain ⟨e0, e1, e2, e3, e4, e5, e6, p0, p1, p2, pl⟩ := H n xi xa xl mi ma y0 y1 hn h.1 
  exact ⟨e0, e1, e2, e3, e4, e5, e6, p0, p1, p2, ⟨pl, h.2⟩⟩
theorem lf2 (H : OP2 Inv) : OP2 InvQ := fun n xi xa xl mi ma  hn h  => by
  obtain ⟨e0, e1, e2, e3, e4, p0, p1, p2, pl⟩ := H n xi xa xl mi ma  hn h.1 
  exact ⟨e0, e1, e2, e3, e4, p0, p1, p2, ⟨pl, h.2⟩⟩
theorem lf3 (H : OP3 Inv) : OP3 InvQ := fun n xi xa xl mi ma y0 hn h  => by
  obtain ⟨e0, e1, e2, p0, p1, p2, pl⟩ := H n xi xa xl mi ma y0 hn h.1 
  exact ⟨e0, e1, e2, p0, p1, p2, ⟨pl, h.2⟩⟩
theorem lf4 (H : OP4 Inv) : OP4 InvQ := fun n xi xa xl mi ma y0 hn h  => by
  obtain ⟨e0, e1, e2, e3, e4, p0, p1, p2, pl⟩ := H n xi xa xl mi ma y0 hn h.1 
  exact ⟨e0, e1, e2, e3, e4, p0, p1, p2, ⟨pl, h.2⟩⟩
theorem lf5 (H : OP5 Inv) : OP5 InvQ := fun n xi xa xl mi ma y0 y1 y2 y3 hn h  => by
  obtain ⟨e0, e1, e2, e3, e4, e5, e6, e7, e8, e9, e10, e11, e12, p0, p1, p2, pl⟩ := H n xi xa xl mi ma y0 y1 y2 y3 hn h.1 
  exact ⟨e0, e1, e2, e3, e4, e5, e6, e7, e8, e9, e10, e11, e12, p0, p1, p2, ⟨pl, h.2⟩⟩
theorem lf6 (H : OP6 Inv) : OP6 InvQ := fun n xi xa xl mi ma  hn h  => by
  obtain ⟨e0, e1, e2, e3, e4, p0, p1, p2, pl⟩ := H n xi xa xl mi ma  hn h.1 
  exact ⟨e0, e1, e2, e3, e4, p0, p1, p2, ⟨pl, h.2⟩⟩
theorem lf7 (H : OP7 Inv) : OP7 InvQ := fun n xi xa xl mi ma  hn h  => by
  obtain ⟨e0, e1, e2, e3, e4, e5, e6, e7, e8, e9, e10, e11, e12, e13, e14, e15, e16, e17, e18, e19, e20, e21, e22, e23, e24, e25, e26, e27, e28, e29, e30, e31, e32, e33, e34, e35, e36, e37, e38, e39, e40, e41, e42, p0, p1, p2, pl⟩ := H n xi xa xl mi ma  hn h.1 
  exact ⟨e0, e1, e2, e3, e4, e5, e6, e7, e8, e9, e10, e11, e12, e13, e14, e15, e16, e17, e18, e19, e20, e21, e22, e23, e24, e25, e26, e27, e28, e29, e30, e31, e32, e33, e34, e35, e36, e37, e38, e39, e40, e41, e42, p0, p1, p2, ⟨pl, h.2⟩⟩
theorem lf8 (H : OP8 Inv) : OP8 InvQ := fun n xi xa xl mi ma  hn h  => by
  obtain ⟨e0, e1, e2, p0, p1, p2, pl⟩ := H n xi xa xl mi ma  hn h.1 
  exact ⟨e0, e1, e2, p0, p1, p2, ⟨pl, h.2⟩⟩
theorem lf9 (H : OP9 Inv) : OP9 InvQ := fun n xi xa xl mi ma  hn h  => by
  obtain ⟨e0, e1, e2, p0, p1, p2, pl⟩ := H n xi xa xl mi ma  hn h.1 
  exact ⟨e0, e1, e2, p0, p1, p2, ⟨pl, h.2⟩⟩
theorem lf10 (H : OP10 Inv) : OP10 InvQ := fun n xi xa xl mi ma y0 hn h  => by
  obtain ⟨e0, e1, e2, p0, p1, p2, pl⟩ := H n xi xa xl mi ma y0 hn h.1 
  exact ⟨e0, e1, e2, p0, p1, p2, ⟨pl, h.2⟩⟩
theorem lf11 (H : OP11 Inv) : OP11 InvQ := fun n xi xa xl mi ma y0 y1 hn h  => by
  obtain ⟨e0, e1, e2, p0, p1, p2, pl⟩ := H n xi xa xl mi ma y0 y1 hn h.1 
  exact ⟨e0, e1, e2, p0, p1, p2, ⟨pl, h.2⟩⟩
theorem lf12 (H : OP12 Inv) : OP12 InvQ := fun n xi xa xl mi ma y0 y1 hn h  => by
  obtain ⟨e0, e1, e2, p0, p1, p2, pl⟩ := H n xi xa xl mi ma y0 y1 hn h.1 
  exact ⟨e0, e1, e2, p0, p1, p2, ⟨pl, h.2⟩⟩
theorem lf13 (H : OP13 Inv) : OP13 InvQ := fun n xi xa xl mi ma y0 hn h  => by
  obtain ⟨e0, e1, e2, p0, p1, p2, pl⟩ := H n xi xa xl mi ma y0 hn h.1 
  exact ⟨e0, e1, e2, p0, p1, p2, ⟨pl, h.2⟩⟩
theorem lf14 (H : OP14 Inv) : OP14 InvQ := fun n xi xa xl mi ma y0 hn h h0 => by
  obtain ⟨e0, e1, e2, p0, p1, p2, pl⟩ := H n xi xa xl mi ma y0 hn h.1 h0
  exact ⟨e0, e1, e2, p0, p1, p2, ⟨pl, h.2⟩⟩
theorem lf15 (H : OP15 Inv) : OP15 InvQ := fun n xi xa xl mi ma  hn h  => by
  obtain ⟨e0, e1, e2, p0, p1, p2, pl⟩ := H n xi xa xl mi ma  hn h.1 
  exact ⟨e0, e1, e2, p0, p1, p2, ⟨pl, h.2⟩⟩
theorem lf16 (H : OP16 Inv) : OP16 InvQ := fun n xi xa xl mi ma y0 hn h  => by
  obtain ⟨e0, e1, e2, p0, p1, p2, pl⟩ := H n xi xa xl mi ma y0 hn h.1 
  exact ⟨e0, e1, e2, p0, p1, p2, ⟨pl, h.2⟩⟩
theorem lf17 (H : OP17 Inv) : OP17 InvQ := fun n xi xa xl mi ma y0 hn h  => by
  obtain ⟨e0, e1, e2, e3, e4, p0, p1, p2, pl⟩ := H n xi xa xl mi ma y0 hn h.1 
  exact ⟨e0, e1, e2, e3, e4, p0, p1, p2, ⟨pl, h.2⟩⟩
theorem lf18 (H : OP18 Inv) : OP18 InvQ := fun n xi xa xl mi ma y0 y1 hn h  => by
  obtain ⟨e0, e1, e2, e3, e4, p0, p1, p2, pl⟩ := H n xi xa xl mi ma y0 y1 hn h.1 
  exact ⟨e0, e1, e2, e3, e4, p0, p1, p2, ⟨pl, h.2⟩⟩
theorem lf19 (H : OP19 Inv) : OP19 InvQ := fun n xi xa xl mi ma y0 y1 y2 hn h  => by
  obtain ⟨e0, e1, e2, e3, e4, p0, p1, p2, pl⟩ := H n xi xa xl mi ma y0 y1 y2 hn h.1 
  exact ⟨e0, e1, e2, e3, e4, p0, p1, p2, ⟨pl, h.2⟩⟩
theorem lf20 (H : OP20 Inv) : OP20 InvQ := fun n xi xa xl mi ma y0 y1 hn h  => by
  obtain ⟨e0, e1, e2, e3, e4, e5, e6, p0, p1, p2, pl⟩ := H n xi xa xl mi ma y0 y1 hn h.1 
  exact ⟨e0, e1, e2, e3, e4, e5, e6, p0, p1, p2, ⟨pl, h.2⟩⟩
theorem lf21 (H : OP21 Inv) : OP21 InvQ := fun n xi xa xl mi ma y0 y1 y2 hn h  => by
  obtain ⟨e0, e1, e2, e3, e4, e5, e6, e7, e8, e9, e10, e11, e12, e13, e14, e15, e16, e17, e18, e19, e20, e21, e22, e23, e24, e25, e26, e27, e28, e29, e30, e31, e32, e33, e34, e35, e36, e37, e38, e39, e40, e41, e42, e43, e44, e45, e46, p0, p1, p2, pl⟩ := H n xi xa xl mi ma y0 y1 y2 hn h.1 
  exact ⟨e0, e1, e2, e3, e4, e5, e6, e7, e8, e9, e10, e11, e12, e13, e14, e15, e16, e17, e18, e19, e20, e21, e22, e23, e24, e25, e26, e27, e28, e29, e30, e31, e32, e33, e34, e35, e36, e37, e38, e39, e40, e41, e42, e43, e44, e45, e46, p0, p1, p2, ⟨pl, h.2⟩⟩
theorem lf22 (H : OP22 Inv) : OP22 InvQ := fun n xi xa xl mi ma y0 hn h  => by
  obtain ⟨e0, e1, e2, p0, p1, p2, pl⟩ := H n xi xa xl mi ma y0 hn h.1 
  exact ⟨e0, e1, e2, p0, p1, p2, ⟨pl, h.2⟩⟩
theorem lf23 (H : OP23 Inv) : OP23 InvQ := fun n xi xa xl mi ma y0 hn h  => by
  obtain ⟨e0, e1, e2, p0, p1, p2, pl⟩ := H n xi xa xl mi ma y0 hn h.1 
  exact ⟨e0, e1, e2, p0, p1, p2, ⟨pl, h.2⟩⟩
theorem lf24 (H : OP24 Inv) : OP24 InvQ := fun n xi xa xl mi ma y0 y1 hn h h0 => by
  obtain ⟨e0, e1, e2, p0, p1, p2, pl⟩ := H n xi xa xl mi ma y0 y1 hn h.1 h0
  exact ⟨e0, e1, e2, p0, p1, p2, ⟨pl, h.2⟩⟩
theorem lf25 (H : OP25 Inv) : OP25 InvQ := fun n xi xa xl mi ma y0 hn h  => by
  obtain ⟨e0, e1, e2, p0, p1, p2, pl⟩ := H n xi xa xl mi ma y0 hn h.1 
  exact ⟨e0, e1, e2, p0, p1, p2, ⟨pl, h.2⟩⟩
theorem lf26 (H : OP26 Inv) : OP26 InvQ := fun n xi xa xl mi ma y0 hn h  => by
  obtain ⟨e0, e1, e2, p0, p1, p2, pl⟩ := H n xi xa xl mi ma y0 hn h.1 
  exact ⟨e0, e1, e2, p0, p1, p2, ⟨pl, h.2⟩⟩
theorem lf27 (H : OP27 Inv) : OP27 InvQ := fun n xi xa xl mi ma y0 hn h  => by
  obtain ⟨e0, e1, e2, p0, p1, p2, pl⟩ := H n xi xa xl mi ma y0 hn h.1 
  exact ⟨e0, e1, e2, p0, p1, p2, ⟨pl, h.2⟩⟩
theorem lf29 (H : OP29 Inv) : OP29 InvQ := fun n xi xa xl mi ma y0 hn h  => by
  obtain ⟨e0, e1, e2, p0, p1, p2, pl⟩ := H n xi xa xl mi ma y0 hn h.1 
  exact ⟨e0, e1, e2, p0, p1, p2, ⟨pl, h.2⟩⟩
theorem lf30 (H : OP30 Inv) : OP30 InvQ := fun n xi xa xl mi ma y0 hn h  => by
  obtain ⟨e0, e1, e2, p0, p1, p2, pl⟩ := H n xi xa xl mi ma y0 hn h.1 
  exact ⟨e0, e1, e2, p0, p1, p2, ⟨pl, h.2⟩⟩
theorem lf31 (H : OP31 Inv) : OP31 InvQ := fun n xi xa xl mi ma y0 hn h  => by
  obtain ⟨e0, e1, e2, p0, p1, p2, pl⟩ := H n xi xa xl mi ma y0 hn h.1 
  exact ⟨e0, e1, e2, p0, p1, p2, ⟨pl, h.2⟩⟩
theorem lf32 (H : OP32 Inv) : OP32 InvQ := fun n xi xa xl mi ma y0 y1 hn h  => by
  obtain ⟨e0, e1, e2, e3, e4, e5, e6, p0, p1, p2, pl⟩ := H n xi xa xl mi ma y0 y1 hn h.1 
  exact ⟨e0, e1, e2, e3, e4, e5, e6, p0, p1, p2, ⟨pl, h.2⟩⟩
theorem lf33 (H : OP33 Inv) : OP33 InvQ := fun n xi xa xl mi ma y0 y1 hn h h0 => by
  obtain ⟨e0, e1, e2, e3, e4, p0, p1, p2, pl⟩ := H n xi xa xl mi ma y0 y1 hn h.1 h0
  exact ⟨e0, e1, e2, e3, e4, p0, p1, p2, ⟨pl, h.2⟩⟩
theorem lf34 (H : OP34 Inv) : OP34 InvQ := fun n xi xa xl mi ma y0 hn h  => by
  obtain ⟨e0, e1, e2, p0, p1, p2, pl⟩ := H n xi xa xl mi ma y0 hn h.1 
  exact ⟨e0, e1, e2, p0, p1, p2, ⟨pl, h.2⟩⟩
theorem lf35 (H : OP35 Inv) : OP35 InvQ := fun n xi xa xl mi ma y0 hn h h0 => by
  obtain ⟨e0, e1, e2, e3, e4, e5, e6, e7, e8, e9, e10, e11, e12, e13, e14, e15, e16, e17, e18, p0, p1, pl⟩ := H n xi xa xl mi ma y0 hn h.1 h0
  exact ⟨e0, e1, e2, e3, e4, e5, e6, e7, e8, e9, e10, e11, e12, e13, e14, e15, e16, e17, e18, p0, p1, ⟨pl, h.2⟩⟩
theorem lf36 (H : OP36 Inv) : OP36 InvQ := fun n xi xa xl mi ma y0 y1 hn h h0 => by
  obtain ⟨e0, e1, e2, e3, e4, e5, e6, p0, p1, p2, pl⟩ := H n xi xa xl mi ma y0 y1 hn h.1 h0
  exact ⟨e0, e1, e2, e3, e4, e5, e6, p0, p1, p2, ⟨pl, h.2⟩⟩
theorem lf37 (H : OP37 Inv) : OP37 InvQ := fun n xi xa xl mi ma y0 y1 hn h h0 => by
  obtain ⟨e0, e1, e2, e3, e4, e5, e6, e7, e8, e9, e10, e11, e12, e13, e14, e15, e16, e17, e18, e19, e20, e21, e22, p0, p1, p2, pl⟩ := H n xi xa xl mi ma y0 y1 hn h.1 h0
  exact ⟨e0, e1, e2, e3, e4, e5, e6, e7, e8, e9, e10, e11, e12, e13, e14, e15, e16, e17, e18, e19, e20, e21, e22, p0, p1, p2, ⟨pl, h.2⟩⟩
