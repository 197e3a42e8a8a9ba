/-! ===== the functional words: a program as a Lean function, with its own failures as none ===== -/
def nm {α β : Type} (a : α) (k : α → β) : β := k a
def jk {α β : Type} (a : α) (k : α → β) : β := k a
def og {β : Type} (b : Bool) (k : Option β) : Option β := cond b k none
def ixb (i : Int32) (n : Nat) : Bool := !(decide (i < 0) || decide (n ≤ i.toNatClampNeg))
def zb (x : Int32) : Bool := decide (x = 0) || decide (x = 1)
def FU : Nat := 1000000
theorem nm_at {α β : Type} {a x : α} {k : α → β} {y : β} (e : x = a) (h : nm a k = y) : k x = y := by subst e; exact h
theorem jk_at {α β : Type} {a : α} {k : α → β} {y : β} (h : jk a k = y) : ∃ x, x = a ∧ k x = y := ⟨a, rfl, h⟩
theorem og_at {β : Type} {b : Bool} {k : Option β} {y : β} (h : og b k = some y) : b = true ∧ k = some y := by
  cases b with
  | false => cases h
  | true => exact ⟨rfl, h⟩
theorem ixb_in {i : Int32} {n : Nat} (h : ixb i n = true) : vp_in i n := by
  unfold ixb at h
  unfold vp_in
  simpa using h
theorem zb_nar {x : Int32} (h : zb x = true) : narrow .boolean (.int x) = .int x := by
  unfold zb at h
  rcases (by simpa using h : x = 0 ∨ x = 1) with h | h <;> subst h <;> rfl
theorem zb_fit {x : Int32} (h : zb x = true) : fits .boolean (.int x) = true := by
  unfold zb at h
  rcases (by simpa using h : x = 0 ∨ x = 1) with h | h <;> subst h <;> rfl
theorem ift {α : Type} {c : Prop} [Decidable c] {a b y : α} (hc : c) (h : (if c then a else b) = y) : a = y := by rw [if_pos hc] at h; exact h
theorem iff' {α : Type} {c : Prop} [Decidable c] {a b y : α} (hc : ¬ c) (h : (if c then a else b) = y) : b = y := by rw [if_neg hc] at h; exact h
def ob1 {A0 β : Type} (x : Option (A0)) (k : A0 → Option β) : Option β := match x with
  | none => none
  | some x => k x
theorem ob1_at {A0 β : Type} {x : Option (A0)} {k : A0 → Option β} {y : β} (h : ob1 x k = some y) : ∃ x0, x = some x0 ∧ k x0 = some y := by
  cases x with
  | none => cases h
  | some x => exact ⟨x, rfl, h⟩
def nt1 {A0 β : Type} (x : A0) (k : A0 → β) : β := k x
theorem nt1_at {A0 β : Type} {x : A0} {k : A0 → β} {y : β} (h : nt1 x k = y) : ∃ x0, x0 = x ∧ k x0 = y := ⟨x, rfl, h⟩
theorem k1_at {A0 β : Type} {k k2 : A0 → β} {x0 : A0} {y : β} (e : k = k2) (h : k x0 = y) : k2 x0 = y := by subst e; exact h
def ob2 {A0 A1 β : Type} (x : Option (A0 × A1)) (k : A0 → A1 → Option β) : Option β := match x with
  | none => none
  | some x => k x.1 x.2
theorem ob2_at {A0 A1 β : Type} {x : Option (A0 × A1)} {k : A0 → A1 → Option β} {y : β} (h : ob2 x k = some y) : ∃ x0 x1, x = some (x0, x1) ∧ k x0 x1 = some y := by
  cases x with
  | none => cases h
  | some x => exact ⟨x.1, x.2, rfl, h⟩
def nt2 {A0 A1 β : Type} (x : A0 × A1) (k : A0 → A1 → β) : β := k x.1 x.2
theorem nt2_at {A0 A1 β : Type} {x : A0 × A1} {k : A0 → A1 → β} {y : β} (h : nt2 x k = y) : ∃ x0 x1, (x0, x1) = x ∧ k x0 x1 = y := ⟨x.1, x.2, rfl, h⟩
theorem k2_at {A0 A1 β : Type} {k k2 : A0 → A1 → β} {x0 : A0} {x1 : A1} {y : β} (e : k = k2) (h : k x0 x1 = y) : k2 x0 x1 = y := by subst e; exact h
def ob3 {A0 A1 A2 β : Type} (x : Option (A0 × A1 × A2)) (k : A0 → A1 → A2 → Option β) : Option β := match x with
  | none => none
  | some x => k x.1 x.2.1 x.2.2
theorem ob3_at {A0 A1 A2 β : Type} {x : Option (A0 × A1 × A2)} {k : A0 → A1 → A2 → Option β} {y : β} (h : ob3 x k = some y) : ∃ x0 x1 x2, x = some (x0, x1, x2) ∧ k x0 x1 x2 = some y := by
  cases x with
  | none => cases h
  | some x => exact ⟨x.1, x.2.1, x.2.2, rfl, h⟩
def nt3 {A0 A1 A2 β : Type} (x : A0 × A1 × A2) (k : A0 → A1 → A2 → β) : β := k x.1 x.2.1 x.2.2
theorem nt3_at {A0 A1 A2 β : Type} {x : A0 × A1 × A2} {k : A0 → A1 → A2 → β} {y : β} (h : nt3 x k = y) : ∃ x0 x1 x2, (x0, x1, x2) = x ∧ k x0 x1 x2 = y := ⟨x.1, x.2.1, x.2.2, rfl, h⟩
theorem k3_at {A0 A1 A2 β : Type} {k k2 : A0 → A1 → A2 → β} {x0 : A0} {x1 : A1} {x2 : A2} {y : β} (e : k = k2) (h : k x0 x1 x2 = y) : k2 x0 x1 x2 = y := by subst e; exact h
def ob4 {A0 A1 A2 A3 β : Type} (x : Option (A0 × A1 × A2 × A3)) (k : A0 → A1 → A2 → A3 → Option β) : Option β := match x with
  | none => none
  | some x => k x.1 x.2.1 x.2.2.1 x.2.2.2
theorem ob4_at {A0 A1 A2 A3 β : Type} {x : Option (A0 × A1 × A2 × A3)} {k : A0 → A1 → A2 → A3 → Option β} {y : β} (h : ob4 x k = some y) : ∃ x0 x1 x2 x3, x = some (x0, x1, x2, x3) ∧ k x0 x1 x2 x3 = some y := by
  cases x with
  | none => cases h
  | some x => exact ⟨x.1, x.2.1, x.2.2.1, x.2.2.2, rfl, h⟩
def nt4 {A0 A1 A2 A3 β : Type} (x : A0 × A1 × A2 × A3) (k : A0 → A1 → A2 → A3 → β) : β := k x.1 x.2.1 x.2.2.1 x.2.2.2
theorem nt4_at {A0 A1 A2 A3 β : Type} {x : A0 × A1 × A2 × A3} {k : A0 → A1 → A2 → A3 → β} {y : β} (h : nt4 x k = y) : ∃ x0 x1 x2 x3, (x0, x1, x2, x3) = x ∧ k x0 x1 x2 x3 = y := ⟨x.1, x.2.1, x.2.2.1, x.2.2.2, rfl, h⟩
theorem k4_at {A0 A1 A2 A3 β : Type} {k k2 : A0 → A1 → A2 → A3 → β} {x0 : A0} {x1 : A1} {x2 : A2} {x3 : A3} {y : β} (e : k = k2) (h : k x0 x1 x2 x3 = y) : k2 x0 x1 x2 x3 = y := by subst e; exact h
def ob5 {A0 A1 A2 A3 A4 β : Type} (x : Option (A0 × A1 × A2 × A3 × A4)) (k : A0 → A1 → A2 → A3 → A4 → Option β) : Option β := match x with
  | none => none
  | some x => k x.1 x.2.1 x.2.2.1 x.2.2.2.1 x.2.2.2.2
theorem ob5_at {A0 A1 A2 A3 A4 β : Type} {x : Option (A0 × A1 × A2 × A3 × A4)} {k : A0 → A1 → A2 → A3 → A4 → Option β} {y : β} (h : ob5 x k = some y) : ∃ x0 x1 x2 x3 x4, x = some (x0, x1, x2, x3, x4) ∧ k x0 x1 x2 x3 x4 = some y := by
  cases x with
  | none => cases h
  | some x => exact ⟨x.1, x.2.1, x.2.2.1, x.2.2.2.1, x.2.2.2.2, rfl, h⟩
def nt5 {A0 A1 A2 A3 A4 β : Type} (x : A0 × A1 × A2 × A3 × A4) (k : A0 → A1 → A2 → A3 → A4 → β) : β := k x.1 x.2.1 x.2.2.1 x.2.2.2.1 x.2.2.2.2
theorem nt5_at {A0 A1 A2 A3 A4 β : Type} {x : A0 × A1 × A2 × A3 × A4} {k : A0 → A1 → A2 → A3 → A4 → β} {y : β} (h : nt5 x k = y) : ∃ x0 x1 x2 x3 x4, (x0, x1, x2, x3, x4) = x ∧ k x0 x1 x2 x3 x4 = y := ⟨x.1, x.2.1, x.2.2.1, x.2.2.2.1, x.2.2.2.2, rfl, h⟩
theorem k5_at {A0 A1 A2 A3 A4 β : Type} {k k2 : A0 → A1 → A2 → A3 → A4 → β} {x0 : A0} {x1 : A1} {x2 : A2} {x3 : A3} {x4 : A4} {y : β} (e : k = k2) (h : k x0 x1 x2 x3 x4 = y) : k2 x0 x1 x2 x3 x4 = y := by subst e; exact h
def ob6 {A0 A1 A2 A3 A4 A5 β : Type} (x : Option (A0 × A1 × A2 × A3 × A4 × A5)) (k : A0 → A1 → A2 → A3 → A4 → A5 → Option β) : Option β := match x with
  | none => none
  | some x => k x.1 x.2.1 x.2.2.1 x.2.2.2.1 x.2.2.2.2.1 x.2.2.2.2.2
theorem ob6_at {A0 A1 A2 A3 A4 A5 β : Type} {x : Option (A0 × A1 × A2 × A3 × A4 × A5)} {k : A0 → A1 → A2 → A3 → A4 → A5 → Option β} {y : β} (h : ob6 x k = some y) : ∃ x0 x1 x2 x3 x4 x5, x = some (x0, x1, x2, x3, x4, x5) ∧ k x0 x1 x2 x3 x4 x5 = some y := by
  cases x with
  | none => cases h
  | some x => exact ⟨x.1, x.2.1, x.2.2.1, x.2.2.2.1, x.2.2.2.2.1, x.2.2.2.2.2, rfl, h⟩
def nt6 {A0 A1 A2 A3 A4 A5 β : Type} (x : A0 × A1 × A2 × A3 × A4 × A5) (k : A0 → A1 → A2 → A3 → A4 → A5 → β) : β := k x.1 x.2.1 x.2.2.1 x.2.2.2.1 x.2.2.2.2.1 x.2.2.2.2.2
theorem nt6_at {A0 A1 A2 A3 A4 A5 β : Type} {x : A0 × A1 × A2 × A3 × A4 × A5} {k : A0 → A1 → A2 → A3 → A4 → A5 → β} {y : β} (h : nt6 x k = y) : ∃ x0 x1 x2 x3 x4 x5, (x0, x1, x2, x3, x4, x5) = x ∧ k x0 x1 x2 x3 x4 x5 = y := ⟨x.1, x.2.1, x.2.2.1, x.2.2.2.1, x.2.2.2.2.1, x.2.2.2.2.2, rfl, h⟩
theorem k6_at {A0 A1 A2 A3 A4 A5 β : Type} {k k2 : A0 → A1 → A2 → A3 → A4 → A5 → β} {x0 : A0} {x1 : A1} {x2 : A2} {x3 : A3} {x4 : A4} {x5 : A5} {y : β} (e : k = k2) (h : k x0 x1 x2 x3 x4 x5 = y) : k2 x0 x1 x2 x3 x4 x5 = y := by subst e; exact h
def ob7 {A0 A1 A2 A3 A4 A5 A6 β : Type} (x : Option (A0 × A1 × A2 × A3 × A4 × A5 × A6)) (k : A0 → A1 → A2 → A3 → A4 → A5 → A6 → Option β) : Option β := match x with
  | none => none
  | some x => k x.1 x.2.1 x.2.2.1 x.2.2.2.1 x.2.2.2.2.1 x.2.2.2.2.2.1 x.2.2.2.2.2.2
theorem ob7_at {A0 A1 A2 A3 A4 A5 A6 β : Type} {x : Option (A0 × A1 × A2 × A3 × A4 × A5 × A6)} {k : A0 → A1 → A2 → A3 → A4 → A5 → A6 → Option β} {y : β} (h : ob7 x k = some y) : ∃ x0 x1 x2 x3 x4 x5 x6, x = some (x0, x1, x2, x3, x4, x5, x6) ∧ k x0 x1 x2 x3 x4 x5 x6 = some y := by
  cases x with
  | none => cases h
  | some x => exact ⟨x.1, x.2.1, x.2.2.1, x.2.2.2.1, x.2.2.2.2.1, x.2.2.2.2.2.1, x.2.2.2.2.2.2, rfl, h⟩
def nt7 {A0 A1 A2 A3 A4 A5 A6 β : Type} (x : A0 × A1 × A2 × A3 × A4 × A5 × A6) (k : A0 → A1 → A2 → A3 → A4 → A5 → A6 → β) : β := k x.1 x.2.1 x.2.2.1 x.2.2.2.1 x.2.2.2.2.1 x.2.2.2.2.2.1 x.2.2.2.2.2.2
theorem nt7_at {A0 A1 A2 A3 A4 A5 A6 β : Type} {x : A0 × A1 × A2 × A3 × A4 × A5 × A6} {k : A0 → A1 → A2 → A3 → A4 → A5 → A6 → β} {y : β} (h : nt7 x k = y) : ∃ x0 x1 x2 x3 x4 x5 x6, (x0, x1, x2, x3, x4, x5, x6) = x ∧ k x0 x1 x2 x3 x4 x5 x6 = y := ⟨x.1, x.2.1, x.2.2.1, x.2.2.2.1, x.2.2.2.2.1, x.2.2.2.2.2.1, x.2.2.2.2.2.2, rfl, h⟩
theorem k7_at {A0 A1 A2 A3 A4 A5 A6 β : Type} {k k2 : A0 → A1 → A2 → A3 → A4 → A5 → A6 → β} {x0 : A0} {x1 : A1} {x2 : A2} {x3 : A3} {x4 : A4} {x5 : A5} {x6 : A6} {y : β} (e : k = k2) (h : k x0 x1 x2 x3 x4 x5 x6 = y) : k2 x0 x1 x2 x3 x4 x5 x6 = y := by subst e; exact h
def ob8 {A0 A1 A2 A3 A4 A5 A6 A7 β : Type} (x : Option (A0 × A1 × A2 × A3 × A4 × A5 × A6 × A7)) (k : A0 → A1 → A2 → A3 → A4 → A5 → A6 → A7 → Option β) : Option β := match x with
  | none => none
  | some x => k x.1 x.2.1 x.2.2.1 x.2.2.2.1 x.2.2.2.2.1 x.2.2.2.2.2.1 x.2.2.2.2.2.2.1 x.2.2.2.2.2.2.2
theorem ob8_at {A0 A1 A2 A3 A4 A5 A6 A7 β : Type} {x : Option (A0 × A1 × A2 × A3 × A4 × A5 × A6 × A7)} {k : A0 → A1 → A2 → A3 → A4 → A5 → A6 → A7 → Option β} {y : β} (h : ob8 x k = some y) : ∃ x0 x1 x2 x3 x4 x5 x6 x7, x = some (x0, x1, x2, x3, x4, x5, x6, x7) ∧ k x0 x1 x2 x3 x4 x5 x6 x7 = some y := by
  cases x with
  | none => cases h
  | some x => exact ⟨x.1, x.2.1, x.2.2.1, x.2.2.2.1, x.2.2.2.2.1, x.2.2.2.2.2.1, x.2.2.2.2.2.2.1, x.2.2.2.2.2.2.2, rfl, h⟩
def nt8 {A0 A1 A2 A3 A4 A5 A6 A7 β : Type} (x : A0 × A1 × A2 × A3 × A4 × A5 × A6 × A7) (k : A0 → A1 → A2 → A3 → A4 → A5 → A6 → A7 → β) : β := k x.1 x.2.1 x.2.2.1 x.2.2.2.1 x.2.2.2.2.1 x.2.2.2.2.2.1 x.2.2.2.2.2.2.1 x.2.2.2.2.2.2.2
theorem nt8_at {A0 A1 A2 A3 A4 A5 A6 A7 β : Type} {x : A0 × A1 × A2 × A3 × A4 × A5 × A6 × A7} {k : A0 → A1 → A2 → A3 → A4 → A5 → A6 → A7 → β} {y : β} (h : nt8 x k = y) : ∃ x0 x1 x2 x3 x4 x5 x6 x7, (x0, x1, x2, x3, x4, x5, x6, x7) = x ∧ k x0 x1 x2 x3 x4 x5 x6 x7 = y := ⟨x.1, x.2.1, x.2.2.1, x.2.2.2.1, x.2.2.2.2.1, x.2.2.2.2.2.1, x.2.2.2.2.2.2.1, x.2.2.2.2.2.2.2, rfl, h⟩
theorem k8_at {A0 A1 A2 A3 A4 A5 A6 A7 β : Type} {k k2 : A0 → A1 → A2 → A3 → A4 → A5 → A6 → A7 → β} {x0 : A0} {x1 : A1} {x2 : A2} {x3 : A3} {x4 : A4} {x5 : A5} {x6 : A6} {x7 : A7} {y : β} (e : k = k2) (h : k x0 x1 x2 x3 x4 x5 x6 x7 = y) : k2 x0 x1 x2 x3 x4 x5 x6 x7 = y := by subst e; exact h
def ob9 {A0 A1 A2 A3 A4 A5 A6 A7 A8 β : Type} (x : Option (A0 × A1 × A2 × A3 × A4 × A5 × A6 × A7 × A8)) (k : A0 → A1 → A2 → A3 → A4 → A5 → A6 → A7 → A8 → Option β) : Option β := match x with
  | none => none
  | some x => k x.1 x.2.1 x.2.2.1 x.2.2.2.1 x.2.2.2.2.1 x.2.2.2.2.2.1 x.2.2.2.2.2.2.1 x.2.2.2.2.2.2.2.1 x.2.2.2.2.2.2.2.2
theorem ob9_at {A0 A1 A2 A3 A4 A5 A6 A7 A8 β : Type} {x : Option (A0 × A1 × A2 × A3 × A4 × A5 × A6 × A7 × A8)} {k : A0 → A1 → A2 → A3 → A4 → A5 → A6 → A7 → A8 → Option β} {y : β} (h : ob9 x k = some y) : ∃ x0 x1 x2 x3 x4 x5 x6 x7 x8, x = some (x0, x1, x2, x3, x4, x5, x6, x7, x8) ∧ k x0 x1 x2 x3 x4 x5 x6 x7 x8 = some y := by
  cases x with
  | none => cases h
  | some x => exact ⟨x.1, x.2.1, x.2.2.1, x.2.2.2.1, x.2.2.2.2.1, x.2.2.2.2.2.1, x.2.2.2.2.2.2.1, x.2.2.2.2.2.2.2.1, x.2.2.2.2.2.2.2.2, rfl, h⟩
def nt9 {A0 A1 A2 A3 A4 A5 A6 A7 A8 β : Type} (x : A0 × A1 × A2 × A3 × A4 × A5 × A6 × A7 × A8) (k : A0 → A1 → A2 → A3 → A4 → A5 → A6 → A7 → A8 → β) : β := k x.1 x.2.1 x.2.2.1 x.2.2.2.1 x.2.2.2.2.1 x.2.2.2.2.2.1 x.2.2.2.2.2.2.1 x.2.2.2.2.2.2.2.1 x.2.2.2.2.2.2.2.2
theorem nt9_at {A0 A1 A2 A3 A4 A5 A6 A7 A8 β : Type} {x : A0 × A1 × A2 × A3 × A4 × A5 × A6 × A7 × A8} {k : A0 → A1 → A2 → A3 → A4 → A5 → A6 → A7 → A8 → β} {y : β} (h : nt9 x k = y) : ∃ x0 x1 x2 x3 x4 x5 x6 x7 x8, (x0, x1, x2, x3, x4, x5, x6, x7, x8) = x ∧ k x0 x1 x2 x3 x4 x5 x6 x7 x8 = y := ⟨x.1, x.2.1, x.2.2.1, x.2.2.2.1, x.2.2.2.2.1, x.2.2.2.2.2.1, x.2.2.2.2.2.2.1, x.2.2.2.2.2.2.2.1, x.2.2.2.2.2.2.2.2, rfl, h⟩
theorem k9_at {A0 A1 A2 A3 A4 A5 A6 A7 A8 β : Type} {k k2 : A0 → A1 → A2 → A3 → A4 → A5 → A6 → A7 → A8 → β} {x0 : A0} {x1 : A1} {x2 : A2} {x3 : A3} {x4 : A4} {x5 : A5} {x6 : A6} {x7 : A7} {x8 : A8} {y : β} (e : k = k2) (h : k x0 x1 x2 x3 x4 x5 x6 x7 x8 = y) : k2 x0 x1 x2 x3 x4 x5 x6 x7 x8 = y := by subst e; exact h
def ob10 {A0 A1 A2 A3 A4 A5 A6 A7 A8 A9 β : Type} (x : Option (A0 × A1 × A2 × A3 × A4 × A5 × A6 × A7 × A8 × A9)) (k : A0 → A1 → A2 → A3 → A4 → A5 → A6 → A7 → A8 → A9 → Option β) : Option β := match x with
  | none => none
  | some x => k x.1 x.2.1 x.2.2.1 x.2.2.2.1 x.2.2.2.2.1 x.2.2.2.2.2.1 x.2.2.2.2.2.2.1 x.2.2.2.2.2.2.2.1 x.2.2.2.2.2.2.2.2.1 x.2.2.2.2.2.2.2.2.2
theorem ob10_at {A0 A1 A2 A3 A4 A5 A6 A7 A8 A9 β : Type} {x : Option (A0 × A1 × A2 × A3 × A4 × A5 × A6 × A7 × A8 × A9)} {k : A0 → A1 → A2 → A3 → A4 → A5 → A6 → A7 → A8 → A9 → Option β} {y : β} (h : ob10 x k = some y) : ∃ x0 x1 x2 x3 x4 x5 x6 x7 x8 x9, x = some (x0, x1, x2, x3, x4, x5, x6, x7, x8, x9) ∧ k x0 x1 x2 x3 x4 x5 x6 x7 x8 x9 = some y := by
  cases x with
  | none => cases h
  | some x => exact ⟨x.1, x.2.1, x.2.2.1, x.2.2.2.1, x.2.2.2.2.1, x.2.2.2.2.2.1, x.2.2.2.2.2.2.1, x.2.2.2.2.2.2.2.1, x.2.2.2.2.2.2.2.2.1, x.2.2.2.2.2.2.2.2.2, rfl, h⟩
def nt10 {A0 A1 A2 A3 A4 A5 A6 A7 A8 A9 β : Type} (x : A0 × A1 × A2 × A3 × A4 × A5 × A6 × A7 × A8 × A9) (k : A0 → A1 → A2 → A3 → A4 → A5 → A6 → A7 → A8 → A9 → β) : β := k x.1 x.2.1 x.2.2.1 x.2.2.2.1 x.2.2.2.2.1 x.2.2.2.2.2.1 x.2.2.2.2.2.2.1 x.2.2.2.2.2.2.2.1 x.2.2.2.2.2.2.2.2.1 x.2.2.2.2.2.2.2.2.2
theorem nt10_at {A0 A1 A2 A3 A4 A5 A6 A7 A8 A9 β : Type} {x : A0 × A1 × A2 × A3 × A4 × A5 × A6 × A7 × A8 × A9} {k : A0 → A1 → A2 → A3 → A4 → A5 → A6 → A7 → A8 → A9 → β} {y : β} (h : nt10 x k = y) : ∃ x0 x1 x2 x3 x4 x5 x6 x7 x8 x9, (x0, x1, x2, x3, x4, x5, x6, x7, x8, x9) = x ∧ k x0 x1 x2 x3 x4 x5 x6 x7 x8 x9 = y := ⟨x.1, x.2.1, x.2.2.1, x.2.2.2.1, x.2.2.2.2.1, x.2.2.2.2.2.1, x.2.2.2.2.2.2.1, x.2.2.2.2.2.2.2.1, x.2.2.2.2.2.2.2.2.1, x.2.2.2.2.2.2.2.2.2, rfl, h⟩
theorem k10_at {A0 A1 A2 A3 A4 A5 A6 A7 A8 A9 β : Type} {k k2 : A0 → A1 → A2 → A3 → A4 → A5 → A6 → A7 → A8 → A9 → β} {x0 : A0} {x1 : A1} {x2 : A2} {x3 : A3} {x4 : A4} {x5 : A5} {x6 : A6} {x7 : A7} {x8 : A8} {x9 : A9} {y : β} (e : k = k2) (h : k x0 x1 x2 x3 x4 x5 x6 x7 x8 x9 = y) : k2 x0 x1 x2 x3 x4 x5 x6 x7 x8 x9 = y := by subst e; exact h
def ob11 {A0 A1 A2 A3 A4 A5 A6 A7 A8 A9 A10 β : Type} (x : Option (A0 × A1 × A2 × A3 × A4 × A5 × A6 × A7 × A8 × A9 × A10)) (k : A0 → A1 → A2 → A3 → A4 → A5 → A6 → A7 → A8 → A9 → A10 → Option β) : Option β := match x with
  | none => none
  | some x => k x.1 x.2.1 x.2.2.1 x.2.2.2.1 x.2.2.2.2.1 x.2.2.2.2.2.1 x.2.2.2.2.2.2.1 x.2.2.2.2.2.2.2.1 x.2.2.2.2.2.2.2.2.1 x.2.2.2.2.2.2.2.2.2.1 x.2.2.2.2.2.2.2.2.2.2
theorem ob11_at {A0 A1 A2 A3 A4 A5 A6 A7 A8 A9 A10 β : Type} {x : Option (A0 × A1 × A2 × A3 × A4 × A5 × A6 × A7 × A8 × A9 × A10)} {k : A0 → A1 → A2 → A3 → A4 → A5 → A6 → A7 → A8 → A9 → A10 → Option β} {y : β} (h : ob11 x k = some y) : ∃ x0 x1 x2 x3 x4 x5 x6 x7 x8 x9 x10, x = some (x0, x1, x2, x3, x4, x5, x6, x7, x8, x9, x10) ∧ k x0 x1 x2 x3 x4 x5 x6 x7 x8 x9 x10 = some y := by
  cases x with
  | none => cases h
  | some x => exact ⟨x.1, x.2.1, x.2.2.1, x.2.2.2.1, x.2.2.2.2.1, x.2.2.2.2.2.1, x.2.2.2.2.2.2.1, x.2.2.2.2.2.2.2.1, x.2.2.2.2.2.2.2.2.1, x.2.2.2.2.2.2.2.2.2.1, x.2.2.2.2.2.2.2.2.2.2, rfl, h⟩
def nt11 {A0 A1 A2 A3 A4 A5 A6 A7 A8 A9 A10 β : Type} (x : A0 × A1 × A2 × A3 × A4 × A5 × A6 × A7 × A8 × A9 × A10) (k : A0 → A1 → A2 → A3 → A4 → A5 → A6 → A7 → A8 → A9 → A10 → β) : β := k x.1 x.2.1 x.2.2.1 x.2.2.2.1 x.2.2.2.2.1 x.2.2.2.2.2.1 x.2.2.2.2.2.2.1 x.2.2.2.2.2.2.2.1 x.2.2.2.2.2.2.2.2.1 x.2.2.2.2.2.2.2.2.2.1 x.2.2.2.2.2.2.2.2.2.2
theorem nt11_at {A0 A1 A2 A3 A4 A5 A6 A7 A8 A9 A10 β : Type} {x : A0 × A1 × A2 × A3 × A4 × A5 × A6 × A7 × A8 × A9 × A10} {k : A0 → A1 → A2 → A3 → A4 → A5 → A6 → A7 → A8 → A9 → A10 → β} {y : β} (h : nt11 x k = y) : ∃ x0 x1 x2 x3 x4 x5 x6 x7 x8 x9 x10, (x0, x1, x2, x3, x4, x5, x6, x7, x8, x9, x10) = x ∧ k x0 x1 x2 x3 x4 x5 x6 x7 x8 x9 x10 = y := ⟨x.1, x.2.1, x.2.2.1, x.2.2.2.1, x.2.2.2.2.1, x.2.2.2.2.2.1, x.2.2.2.2.2.2.1, x.2.2.2.2.2.2.2.1, x.2.2.2.2.2.2.2.2.1, x.2.2.2.2.2.2.2.2.2.1, x.2.2.2.2.2.2.2.2.2.2, rfl, h⟩
theorem k11_at {A0 A1 A2 A3 A4 A5 A6 A7 A8 A9 A10 β : Type} {k k2 : A0 → A1 → A2 → A3 → A4 → A5 → A6 → A7 → A8 → A9 → A10 → β} {x0 : A0} {x1 : A1} {x2 : A2} {x3 : A3} {x4 : A4} {x5 : A5} {x6 : A6} {x7 : A7} {x8 : A8} {x9 : A9} {x10 : A10} {y : β} (e : k = k2) (h : k x0 x1 x2 x3 x4 x5 x6 x7 x8 x9 x10 = y) : k2 x0 x1 x2 x3 x4 x5 x6 x7 x8 x9 x10 = y := by subst e; exact h
def ob12 {A0 A1 A2 A3 A4 A5 A6 A7 A8 A9 A10 A11 β : Type} (x : Option (A0 × A1 × A2 × A3 × A4 × A5 × A6 × A7 × A8 × A9 × A10 × A11)) (k : A0 → A1 → A2 → A3 → A4 → A5 → A6 → A7 → A8 → A9 → A10 → A11 → Option β) : Option β := match x with
  | none => none
  | some x => k x.1 x.2.1 x.2.2.1 x.2.2.2.1 x.2.2.2.2.1 x.2.2.2.2.2.1 x.2.2.2.2.2.2.1 x.2.2.2.2.2.2.2.1 x.2.2.2.2.2.2.2.2.1 x.2.2.2.2.2.2.2.2.2.1 x.2.2.2.2.2.2.2.2.2.2.1 x.2.2.2.2.2.2.2.2.2.2.2
theorem ob12_at {A0 A1 A2 A3 A4 A5 A6 A7 A8 A9 A10 A11 β : Type} {x : Option (A0 × A1 × A2 × A3 × A4 × A5 × A6 × A7 × A8 × A9 × A10 × A11)} {k : A0 → A1 → A2 → A3 → A4 → A5 → A6 → A7 → A8 → A9 → A10 → A11 → Option β} {y : β} (h : ob12 x k = some y) : ∃ x0 x1 x2 x3 x4 x5 x6 x7 x8 x9 x10 x11, x = some (x0, x1, x2, x3, x4, x5, x6, x7, x8, x9, x10, x11) ∧ k x0 x1 x2 x3 x4 x5 x6 x7 x8 x9 x10 x11 = some y := by
  cases x with
  | none => cases h
  | some x => exact ⟨x.1, x.2.1, x.2.2.1, x.2.2.2.1, x.2.2.2.2.1, x.2.2.2.2.2.1, x.2.2.2.2.2.2.1, x.2.2.2.2.2.2.2.1, x.2.2.2.2.2.2.2.2.1, x.2.2.2.2.2.2.2.2.2.1, x.2.2.2.2.2.2.2.2.2.2.1, x.2.2.2.2.2.2.2.2.2.2.2, rfl, h⟩
def nt12 {A0 A1 A2 A3 A4 A5 A6 A7 A8 A9 A10 A11 β : Type} (x : A0 × A1 × A2 × A3 × A4 × A5 × A6 × A7 × A8 × A9 × A10 × A11) (k : A0 → A1 → A2 → A3 → A4 → A5 → A6 → A7 → A8 → A9 → A10 → A11 → β) : β := k x.1 x.2.1 x.2.2.1 x.2.2.2.1 x.2.2.2.2.1 x.2.2.2.2.2.1 x.2.2.2.2.2.2.1 x.2.2.2.2.2.2.2.1 x.2.2.2.2.2.2.2.2.1 x.2.2.2.2.2.2.2.2.2.1 x.2.2.2.2.2.2.2.2.2.2.1 x.2.2.2.2.2.2.2.2.2.2.2
theorem nt12_at {A0 A1 A2 A3 A4 A5 A6 A7 A8 A9 A10 A11 β : Type} {x : A0 × A1 × A2 × A3 × A4 × A5 × A6 × A7 × A8 × A9 × A10 × A11} {k : A0 → A1 → A2 → A3 → A4 → A5 → A6 → A7 → A8 → A9 → A10 → A11 → β} {y : β} (h : nt12 x k = y) : ∃ x0 x1 x2 x3 x4 x5 x6 x7 x8 x9 x10 x11, (x0, x1, x2, x3, x4, x5, x6, x7, x8, x9, x10, x11) = x ∧ k x0 x1 x2 x3 x4 x5 x6 x7 x8 x9 x10 x11 = y := ⟨x.1, x.2.1, x.2.2.1, x.2.2.2.1, x.2.2.2.2.1, x.2.2.2.2.2.1, x.2.2.2.2.2.2.1, x.2.2.2.2.2.2.2.1, x.2.2.2.2.2.2.2.2.1, x.2.2.2.2.2.2.2.2.2.1, x.2.2.2.2.2.2.2.2.2.2.1, x.2.2.2.2.2.2.2.2.2.2.2, rfl, h⟩
theorem k12_at {A0 A1 A2 A3 A4 A5 A6 A7 A8 A9 A10 A11 β : Type} {k k2 : A0 → A1 → A2 → A3 → A4 → A5 → A6 → A7 → A8 → A9 → A10 → A11 → β} {x0 : A0} {x1 : A1} {x2 : A2} {x3 : A3} {x4 : A4} {x5 : A5} {x6 : A6} {x7 : A7} {x8 : A8} {x9 : A9} {x10 : A10} {x11 : A11} {y : β} (e : k = k2) (h : k x0 x1 x2 x3 x4 x5 x6 x7 x8 x9 x10 x11 = y) : k2 x0 x1 x2 x3 x4 x5 x6 x7 x8 x9 x10 x11 = y := by subst e; exact h
def ob13 {A0 A1 A2 A3 A4 A5 A6 A7 A8 A9 A10 A11 A12 β : Type} (x : Option (A0 × A1 × A2 × A3 × A4 × A5 × A6 × A7 × A8 × A9 × A10 × A11 × A12)) (k : A0 → A1 → A2 → A3 → A4 → A5 → A6 → A7 → A8 → A9 → A10 → A11 → A12 → Option β) : Option β := match x with
  | none => none
  | some x => k x.1 x.2.1 x.2.2.1 x.2.2.2.1 x.2.2.2.2.1 x.2.2.2.2.2.1 x.2.2.2.2.2.2.1 x.2.2.2.2.2.2.2.1 x.2.2.2.2.2.2.2.2.1 x.2.2.2.2.2.2.2.2.2.1 x.2.2.2.2.2.2.2.2.2.2.1 x.2.2.2.2.2.2.2.2.2.2.2.1 x.2.2.2.2.2.2.2.2.2.2.2.2
theorem ob13_at {A0 A1 A2 A3 A4 A5 A6 A7 A8 A9 A10 A11 A12 β : Type} {x : Option (A0 × A1 × A2 × A3 × A4 × A5 × A6 × A7 × A8 × A9 × A10 × A11 × A12)} {k : A0 → A1 → A2 → A3 → A4 → A5 → A6 → A7 → A8 → A9 → A10 → A11 → A12 → Option β} {y : β} (h : ob13 x k = some y) : ∃ x0 x1 x2 x3 x4 x5 x6 x7 x8 x9 x10 x11 x12, x = some (x0, x1, x2, x3, x4, x5, x6, x7, x8, x9, x10, x11, x12) ∧ k x0 x1 x2 x3 x4 x5 x6 x7 x8 x9 x10 x11 x12 = some y := by
  cases x with
  | none => cases h
  | some x => exact ⟨x.1, x.2.1, x.2.2.1, x.2.2.2.1, x.2.2.2.2.1, x.2.2.2.2.2.1, x.2.2.2.2.2.2.1, x.2.2.2.2.2.2.2.1, x.2.2.2.2.2.2.2.2.1, x.2.2.2.2.2.2.2.2.2.1, x.2.2.2.2.2.2.2.2.2.2.1, x.2.2.2.2.2.2.2.2.2.2.2.1, x.2.2.2.2.2.2.2.2.2.2.2.2, rfl, h⟩
def nt13 {A0 A1 A2 A3 A4 A5 A6 A7 A8 A9 A10 A11 A12 β : Type} (x : A0 × A1 × A2 × A3 × A4 × A5 × A6 × A7 × A8 × A9 × A10 × A11 × A12) (k : A0 → A1 → A2 → A3 → A4 → A5 → A6 → A7 → A8 → A9 → A10 → A11 → A12 → β) : β := k x.1 x.2.1 x.2.2.1 x.2.2.2.1 x.2.2.2.2.1 x.2.2.2.2.2.1 x.2.2.2.2.2.2.1 x.2.2.2.2.2.2.2.1 x.2.2.2.2.2.2.2.2.1 x.2.2.2.2.2.2.2.2.2.1 x.2.2.2.2.2.2.2.2.2.2.1 x.2.2.2.2.2.2.2.2.2.2.2.1 x.2.2.2.2.2.2.2.2.2.2.2.2
theorem nt13_at {A0 A1 A2 A3 A4 A5 A6 A7 A8 A9 A10 A11 A12 β : Type} {x : A0 × A1 × A2 × A3 × A4 × A5 × A6 × A7 × A8 × A9 × A10 × A11 × A12} {k : A0 → A1 → A2 → A3 → A4 → A5 → A6 → A7 → A8 → A9 → A10 → A11 → A12 → β} {y : β} (h : nt13 x k = y) : ∃ x0 x1 x2 x3 x4 x5 x6 x7 x8 x9 x10 x11 x12, (x0, x1, x2, x3, x4, x5, x6, x7, x8, x9, x10, x11, x12) = x ∧ k x0 x1 x2 x3 x4 x5 x6 x7 x8 x9 x10 x11 x12 = y := ⟨x.1, x.2.1, x.2.2.1, x.2.2.2.1, x.2.2.2.2.1, x.2.2.2.2.2.1, x.2.2.2.2.2.2.1, x.2.2.2.2.2.2.2.1, x.2.2.2.2.2.2.2.2.1, x.2.2.2.2.2.2.2.2.2.1, x.2.2.2.2.2.2.2.2.2.2.1, x.2.2.2.2.2.2.2.2.2.2.2.1, x.2.2.2.2.2.2.2.2.2.2.2.2, rfl, h⟩
theorem k13_at {A0 A1 A2 A3 A4 A5 A6 A7 A8 A9 A10 A11 A12 β : Type} {k k2 : A0 → A1 → A2 → A3 → A4 → A5 → A6 → A7 → A8 → A9 → A10 → A11 → A12 → β} {x0 : A0} {x1 : A1} {x2 : A2} {x3 : A3} {x4 : A4} {x5 : A5} {x6 : A6} {x7 : A7} {x8 : A8} {x9 : A9} {x10 : A10} {x11 : A11} {x12 : A12} {y : β} (e : k = k2) (h : k x0 x1 x2 x3 x4 x5 x6 x7 x8 x9 x10 x11 x12 = y) : k2 x0 x1 x2 x3 x4 x5 x6 x7 x8 x9 x10 x11 x12 = y := by subst e; exact h
def ob14 {A0 A1 A2 A3 A4 A5 A6 A7 A8 A9 A10 A11 A12 A13 β : Type} (x : Option (A0 × A1 × A2 × A3 × A4 × A5 × A6 × A7 × A8 × A9 × A10 × A11 × A12 × A13)) (k : A0 → A1 → A2 → A3 → A4 → A5 → A6 → A7 → A8 → A9 → A10 → A11 → A12 → A13 → Option β) : Option β := match x with
  | none => none
  | some x => k x.1 x.2.1 x.2.2.1 x.2.2.2.1 x.2.2.2.2.1 x.2.2.2.2.2.1 x.2.2.2.2.2.2.1 x.2.2.2.2.2.2.2.1 x.2.2.2.2.2.2.2.2.1 x.2.2.2.2.2.2.2.2.2.1 x.2.2.2.2.2.2.2.2.2.2.1 x.2.2.2.2.2.2.2.2.2.2.2.1 x.2.2.2.2.2.2.2.2.2.2.2.2.1 x.2.2.2.2.2.2.2.2.2.2.2.2.2
theorem ob14_at {A0 A1 A2 A3 A4 A5 A6 A7 A8 A9 A10 A11 A12 A13 β : Type} {x : Option (A0 × A1 × A2 × A3 × A4 × A5 × A6 × A7 × A8 × A9 × A10 × A11 × A12 × A13)} {k : A0 → A1 → A2 → A3 → A4 → A5 → A6 → A7 → A8 → A9 → A10 → A11 → A12 → A13 → Option β} {y : β} (h : ob14 x k = some y) : ∃ x0 x1 x2 x3 x4 x5 x6 x7 x8 x9 x10 x11 x12 x13, x = some (x0, x1, x2, x3, x4, x5, x6, x7, x8, x9, x10, x11, x12, x13) ∧ k x0 x1 x2 x3 x4 x5 x6 x7 x8 x9 x10 x11 x12 x13 = some y := by
  cases x with
  | none => cases h
  | some x => exact ⟨x.1, x.2.1, x.2.2.1, x.2.2.2.1, x.2.2.2.2.1, x.2.2.2.2.2.1, x.2.2.2.2.2.2.1, x.2.2.2.2.2.2.2.1, x.2.2.2.2.2.2.2.2.1, x.2.2.2.2.2.2.2.2.2.1, x.2.2.2.2.2.2.2.2.2.2.1, x.2.2.2.2.2.2.2.2.2.2.2.1, x.2.2.2.2.2.2.2.2.2.2.2.2.1, x.2.2.2.2.2.2.2.2.2.2.2.2.2, rfl, h⟩
def nt14 {A0 A1 A2 A3 A4 A5 A6 A7 A8 A9 A10 A11 A12 A13 β : Type} (x : A0 × A1 × A2 × A3 × A4 × A5 × A6 × A7 × A8 × A9 × A10 × A11 × A12 × A13) (k : A0 → A1 → A2 → A3 → A4 → A5 → A6 → A7 → A8 → A9 → A10 → A11 → A12 → A13 → β) : β := k x.1 x.2.1 x.2.2.1 x.2.2.2.1 x.2.2.2.2.1 x.2.2.2.2.2.1 x.2.2.2.2.2.2.1 x.2.2.2.2.2.2.2.1 x.2.2.2.2.2.2.2.2.1 x.2.2.2.2.2.2.2.2.2.1 x.2.2.2.2.2.2.2.2.2.2.1 x.2.2.2.2.2.2.2.2.2.2.2.1 x.2.2.2.2.2.2.2.2.2.2.2.2.1 x.2.2.2.2.2.2.2.2.2.2.2.2.2
theorem nt14_at {A0 A1 A2 A3 A4 A5 A6 A7 A8 A9 A10 A11 A12 A13 β : Type} {x : A0 × A1 × A2 × A3 × A4 × A5 × A6 × A7 × A8 × A9 × A10 × A11 × A12 × A13} {k : A0 → A1 → A2 → A3 → A4 → A5 → A6 → A7 → A8 → A9 → A10 → A11 → A12 → A13 → β} {y : β} (h : nt14 x k = y) : ∃ x0 x1 x2 x3 x4 x5 x6 x7 x8 x9 x10 x11 x12 x13, (x0, x1, x2, x3, x4, x5, x6, x7, x8, x9, x10, x11, x12, x13) = x ∧ k x0 x1 x2 x3 x4 x5 x6 x7 x8 x9 x10 x11 x12 x13 = y := ⟨x.1, x.2.1, x.2.2.1, x.2.2.2.1, x.2.2.2.2.1, x.2.2.2.2.2.1, x.2.2.2.2.2.2.1, x.2.2.2.2.2.2.2.1, x.2.2.2.2.2.2.2.2.1, x.2.2.2.2.2.2.2.2.2.1, x.2.2.2.2.2.2.2.2.2.2.1, x.2.2.2.2.2.2.2.2.2.2.2.1, x.2.2.2.2.2.2.2.2.2.2.2.2.1, x.2.2.2.2.2.2.2.2.2.2.2.2.2, rfl, h⟩
theorem k14_at {A0 A1 A2 A3 A4 A5 A6 A7 A8 A9 A10 A11 A12 A13 β : Type} {k k2 : A0 → A1 → A2 → A3 → A4 → A5 → A6 → A7 → A8 → A9 → A10 → A11 → A12 → A13 → β} {x0 : A0} {x1 : A1} {x2 : A2} {x3 : A3} {x4 : A4} {x5 : A5} {x6 : A6} {x7 : A7} {x8 : A8} {x9 : A9} {x10 : A10} {x11 : A11} {x12 : A12} {x13 : A13} {y : β} (e : k = k2) (h : k x0 x1 x2 x3 x4 x5 x6 x7 x8 x9 x10 x11 x12 x13 = y) : k2 x0 x1 x2 x3 x4 x5 x6 x7 x8 x9 x10 x11 x12 x13 = y := by subst e; exact h
def ob15 {A0 A1 A2 A3 A4 A5 A6 A7 A8 A9 A10 A11 A12 A13 A14 β : Type} (x : Option (A0 × A1 × A2 × A3 × A4 × A5 × A6 × A7 × A8 × A9 × A10 × A11 × A12 × A13 × A14)) (k : A0 → A1 → A2 → A3 → A4 → A5 → A6 → A7 → A8 → A9 → A10 → A11 → A12 → A13 → A14 → Option β) : Option β := match x with
  | none => none
  | some x => k x.1 x.2.1 x.2.2.1 x.2.2.2.1 x.2.2.2.2.1 x.2.2.2.2.2.1 x.2.2.2.2.2.2.1 x.2.2.2.2.2.2.2.1 x.2.2.2.2.2.2.2.2.1 x.2.2.2.2.2.2.2.2.2.1 x.2.2.2.2.2.2.2.2.2.2.1 x.2.2.2.2.2.2.2.2.2.2.2.1 x.2.2.2.2.2.2.2.2.2.2.2.2.1 x.2.2.2.2.2.2.2.2.2.2.2.2.2.1 x.2.2.2.2.2.2.2.2.2.2.2.2.2.2
theorem ob15_at {A0 A1 A2 A3 A4 A5 A6 A7 A8 A9 A10 A11 A12 A13 A14 β : Type} {x : Option (A0 × A1 × A2 × A3 × A4 × A5 × A6 × A7 × A8 × A9 × A10 × A11 × A12 × A13 × A14)} {k : A0 → A1 → A2 → A3 → A4 → A5 → A6 → A7 → A8 → A9 → A10 → A11 → A12 → A13 → A14 → Option β} {y : β} (h : ob15 x k = some y) : ∃ x0 x1 x2 x3 x4 x5 x6 x7 x8 x9 x10 x11 x12 x13 x14, x = some (x0, x1, x2, x3, x4, x5, x6, x7, x8, x9, x10, x11, x12, x13, x14) ∧ k x0 x1 x2 x3 x4 x5 x6 x7 x8 x9 x10 x11 x12 x13 x14 = some y := by
  cases x with
  | none => cases h
  | some x => exact ⟨x.1, x.2.1, x.2.2.1, x.2.2.2.1, x.2.2.2.2.1, x.2.2.2.2.2.1, x.2.2.2.2.2.2.1, x.2.2.2.2.2.2.2.1, x.2.2.2.2.2.2.2.2.1, x.2.2.2.2.2.2.2.2.2.1, x.2.2.2.2.2.2.2.2.2.2.1, x.2.2.2.2.2.2.2.2.2.2.2.1, x.2.2.2.2.2.2.2.2.2.2.2.2.1, x.2.2.2.2.2.2.2.2.2.2.2.2.2.1, x.2.2.2.2.2.2.2.2.2.2.2.2.2.2, rfl, h⟩
def nt15 {A0 A1 A2 A3 A4 A5 A6 A7 A8 A9 A10 A11 A12 A13 A14 β : Type} (x : A0 × A1 × A2 × A3 × A4 × A5 × A6 × A7 × A8 × A9 × A10 × A11 × A12 × A13 × A14) (k : A0 → A1 → A2 → A3 → A4 → A5 → A6 → A7 → A8 → A9 → A10 → A11 → A12 → A13 → A14 → β) : β := k x.1 x.2.1 x.2.2.1 x.2.2.2.1 x.2.2.2.2.1 x.2.2.2.2.2.1 x.2.2.2.2.2.2.1 x.2.2.2.2.2.2.2.1 x.2.2.2.2.2.2.2.2.1 x.2.2.2.2.2.2.2.2.2.1 x.2.2.2.2.2.2.2.2.2.2.1 x.2.2.2.2.2.2.2.2.2.2.2.1 x.2.2.2.2.2.2.2.2.2.2.2.2.1 x.2.2.2.2.2.2.2.2.2.2.2.2.2.1 x.2.2.2.2.2.2.2.2.2.2.2.2.2.2
theorem nt15_at {A0 A1 A2 A3 A4 A5 A6 A7 A8 A9 A10 A11 A12 A13 A14 β : Type} {x : A0 × A1 × A2 × A3 × A4 × A5 × A6 × A7 × A8 × A9 × A10 × A11 × A12 × A13 × A14} {k : A0 → A1 → A2 → A3 → A4 → A5 → A6 → A7 → A8 → A9 → A10 → A11 → A12 → A13 → A14 → β} {y : β} (h : nt15 x k = y) : ∃ x0 x1 x2 x3 x4 x5 x6 x7 x8 x9 x10 x11 x12 x13 x14, (x0, x1, x2, x3, x4, x5, x6, x7, x8, x9, x10, x11, x12, x13, x14) = x ∧ k x0 x1 x2 x3 x4 x5 x6 x7 x8 x9 x10 x11 x12 x13 x14 = y := ⟨x.1, x.2.1, x.2.2.1, x.2.2.2.1, x.2.2.2.2.1, x.2.2.2.2.2.1, x.2.2.2.2.2.2.1, x.2.2.2.2.2.2.2.1, x.2.2.2.2.2.2.2.2.1, x.2.2.2.2.2.2.2.2.2.1, x.2.2.2.2.2.2.2.2.2.2.1, x.2.2.2.2.2.2.2.2.2.2.2.1, x.2.2.2.2.2.2.2.2.2.2.2.2.1, x.2.2.2.2.2.2.2.2.2.2.2.2.2.1, x.2.2.2.2.2.2.2.2.2.2.2.2.2.2, rfl, h⟩
theorem k15_at {A0 A1 A2 A3 A4 A5 A6 A7 A8 A9 A10 A11 A12 A13 A14 β : Type} {k k2 : A0 → A1 → A2 → A3 → A4 → A5 → A6 → A7 → A8 → A9 → A10 → A11 → A12 → A13 → A14 → β} {x0 : A0} {x1 : A1} {x2 : A2} {x3 : A3} {x4 : A4} {x5 : A5} {x6 : A6} {x7 : A7} {x8 : A8} {x9 : A9} {x10 : A10} {x11 : A11} {x12 : A12} {x13 : A13} {x14 : A14} {y : β} (e : k = k2) (h : k x0 x1 x2 x3 x4 x5 x6 x7 x8 x9 x10 x11 x12 x13 x14 = y) : k2 x0 x1 x2 x3 x4 x5 x6 x7 x8 x9 x10 x11 x12 x13 x14 = y := by subst e; exact h
theorem k0_at {β : Type} {k k2 : β} {y : β} (e : k = k2) (h : k = y) : k2 = y := by subst e; exact h
theorem ts_ne {x k : Int32} {n : Int} (hk : k.toInt = n) (h : ¬ x = k) : x.toInt ≠ n := fun e => h (Int32.toInt_inj.mp (by rw [e, hk]))
/-! ===== worlds ===== -/
def W256 : List Int32 := [4640, 8448, 9248, 8736, 4352, 272, 1056, 2304, 4672, 8256, 9280, 8768, 4160, 64, 1088, 2112, 8224, 8320, 9344, 2080, 4224, 128, 1152, 2176, 4624, 8208, 9232, 8720, 4112, 528, 1040, 2064, 32, 8456, 544, 2336, 4360, 264, 4128, 2312, 4680, 8264, 9288, 8776, 4168, 72, 1096, 2120, 256, 8328, 9352, 8464, 4232, 136, 1160, 2184, 4616, 8200, 9224, 8712, 4104, 520, 1032, 2056, 4644, 8484, 9252, 8740, 4388, 36, 1060, 2340, 4676, 8260, 9284, 8772, 4164, 68, 1092, 2116, 8228, 8324, 9348, 2084, 4228, 132, 1156, 2180, 4612, 8196, 9220, 8708, 4100, 516, 1028, 2052, 4642, 8482, 9250, 8738, 4386, 34, 4132, 2338, 4674, 8258, 9282, 8770, 4162, 66, 1090, 2114, 8226, 8322, 9346, 2082, 4226, 130, 1154, 2178, 4610, 584, 9218, 8706, 4098, 514, 1026, 2050, 4641, 8481, 9249, 8737, 4385, 33, 1057, 2337, 4673, 8257, 9281, 8769, 4161, 65, 1089, 2113, 8225, 8321, 9345, 2081, 4225, 129, 1153, 2177, 4609, 8336, 9217, 8705, 4240, 513, 1025, 2192, 545, 8457, 4368, 289, 4361, 265, 4129, 2313, 4681, 8265, 9289, 8777, 4169, 73, 1097, 2121, 288, 8329, 9353, 2320, 4233, 137, 1161, 2185, 4617, 8201, 9225, 8713, 4105, 521, 1033, 2057, 4384, 8465, 9360, 548, 4369, 273, 1168, 2321, 577, 8449, 580, 576, 4353, 257, 144, 2305, 292, 8337, 9361, 8480, 4241, 145, 1169, 2193, 4625, 8209, 9233, 8721, 4113, 529, 1041, 2065, 4354, 258, 8466, 2306, 4370, 274, 4130, 2322, 8450, 8452, 585, 578, 4356, 260, 1058, 2308, 290, 8338, 9362, 546, 4242, 146, 1170, 2194, 4626, 8210, 9234, 8722, 4114, 530, 1042, 2066]
def wordsF (j : Nat) : Int32 := W256.getD j 0
def StW (tw : Nat) (A : Nat → Prop) (U : State) (H : Heap) : Prop := va_Z "CompactDisc$Speller" "WORDS" "[I" (.ref tw) A U H ∧ va_T .int tw 256 (fun j => .int (wordsF j)) A U H
theorem StW.moved {tw : Nat} {A : Nat → Prop} {u U : State} {H : Heap} (hvm : u.vm.Alike U.vm) (h : StW tw A u H) : StW tw A U H := ⟨h.1.moved hvm, h.2.moved hvm⟩
theorem StW.kept {tw : Nat} {A : Nat → Prop} {U : State} {H H1 : Heap} (h : StW tw A U H) (hq : ∀ a : Nat, a < H.size → ¬ A a → H1[a]? = H[a]?) : StW tw A U H1 := ⟨h.1.kept hq, h.2.kept hq⟩
theorem StW.narrow {tw : Nat} {A B : Nat → Prop} {U : State} {H : Heap} (h : StW tw A U H) (hAB : ∀ q, B q → A q) : StW tw B U H := ⟨h.1.narrow hAB, h.2.narrow hAB⟩
def tyL (cB cI cZ : ClassId) : List (ClassId × FieldType) := [(cB, .byte), (cI, .int), (cZ, .boolean)]
def Wd (D : va_G) (A : Nat → Prop) (s : State) (ws : va_W) (H : Heap) (locs : List Loc) : Prop := va_P D vwCl ws H ∧ va_D A ws ∧ va_S A s.heap H locs
/-- where a method stands: the machine, its own code and class, the tables' words, the classes, the static row of words -/
def Cx (p : Program) (s : State) (m : MethodId) (args : Array Value) (meth : Method) (c : Code) (cc : ByteArray) (mL : Nat) (rt : Option FieldType) (own : String) (D : va_G) (tys : List (ClassId × FieldType)) (tw : Nat) (A : Nat → Prop) : Prop :=
  p.tables.exec = Jvm.exec ∧ c.code = cc ∧ c.maxLocals = mL ∧ s.vm.findClass own = some m.cls ∧ (∀ w ∈ LW, w.before args s = true) ∧ va_K D vwCl tys s ∧ meth.locks = false ∧ meth.sig.returnType = rt ∧ StW tw A s s.heap ∧ (∀ q, s.heap.size ≤ q → A q)
def PreW (D : va_G) (tys : List (ClassId × FieldType)) (tw sz : Nat) (wc : va_W) : State → Prop := fun U => U.heap.size = sz ∧ va_P D vwCl wc U.heap ∧ va_K D vwCl tys U ∧ va_D (fun _ => True) wc ∧ StW tw (va_A wc sz) U U.heap
def QG {ρ : Type} (D : va_G) (tys : List (ClassId × FieldType)) (A : Nat → Prop) (vf : ρ → Option Value) (wf : ρ → va_W) (res : ρ) : Array Value → State → Outcome → State → Prop := fun _ st oc t => (oc = .returned (vf res) ∧ va_P D vwCl (wf res) t.heap ∧ va_K D vwCl tys t ∧ va_D A (wf res)) ∧ va_F A st t
/-- a method's contract: from the world wc it answers vf res, and leaves the world wf res -/
def Ctr {ρ : Type} (l : Launch) (y : MethodName) (cc : ByteArray) (mL : Nat) (rt : Option FieldType) (rm : Room) (D : va_G) (tys : List (ClassId × FieldType)) (tw : Nat) (av : List Value) (wc : va_W) (vf : ρ → Option Value) (wf : ρ → va_W) (res : ρ) : Prop :=
  ∀ sz : Nat, Met l y (Cond.code y cc mL rt :: LW) rm (va_Pc av (PreW D tys tw sz wc)) (QG D tys (va_A wc sz) vf wf res) 0 0 (va_A wc sz)
theorem preW_blind {D : va_G} {tys : List (ClassId × FieldType)} {tw sz : Nat} {wc : va_W} {av : List Value} : FrameBlind (va_Pc av (PreW D tys tw sz wc)) := fun a U g mk q => by
  obtain ⟨q0, q1, qP, qK, qD, qS⟩ := q
  exact ⟨q0, q1, qP, va_K.moved (u := U) (U := U.calling g mk a) (Vm.Alike.refl U.vm) qK, qD, StW.moved (u := U) (U := U.calling g mk a) (Vm.Alike.refl U.vm) qS⟩
theorem ctr_of {ρ : Type} {l : Launch} {y : MethodName} {cc : ByteArray} {mL : Nat} {rt : Option FieldType} {rm : Room} {D : va_G} {tys : List (ClassId × FieldType)} {tw : Nat} {av : List Value} {wc : va_W} {vf : ρ → Option Value} {wf : ρ → va_W} {res : ρ} (own : String) (hy : plainName y.cls = true) (hown : y.cls = own) (hlen : (lg_sl av).length ≤ mL)
    (body : ∀ (p : Program) (e : Env) (s : State) (m : MethodId) (below : List Frame) (meth : Method) (c : Code) (A : Nat → Prop), Cx p s m av.toArray meth c cc mL rt own D tys tw A → Wd D A s wc s.heap [] → ∀ ls : Array Slot, lv_has ls mL (lv_args 0 av) →
      W p l e rm s m av.toArray below meth c s.heap [] 0 0 (MQ below (QG D tys A vf wf res) av.toArray s 0 0 A) (F0 m 0 ls [])) : Ctr l y cc mL rt rm D tys tw av wc vf wf res := by
  intro sz
  refine Met.ofW (cc := cc) (maxL := mL) (ret := rt) hy rfl ?_
  intro p e s m args below meth c s₁ B hml hv
  obtain ⟨rfl, hsz, hP, hK, hD0, hZ⟩ := hv
  have hts := atoms_spec (ws := Cond.code y cc mL rt :: LW) B.pre
  have ho : s.vm.findClass own = some m.cls := by rw [← hown]; exact findClass_of_methodNamed B.named
  subst hsz
  have hl := lv_entry av (n := mL) hlen
  rw [lg_entry_eq]
  exact body p e s m below meth c (va_A wc s.heap.size) ⟨B.exec, B.bytes, hml, ho, fun w h => hts w (List.mem_cons_of_mem _ h), hK, B.notSynchronized, B.returns, hZ, fun q h => Or.inr h⟩ ⟨hP, hD0.self, va_S.rf⟩ _ hl
section XW
variable {p : Program} {l : Launch} {e : Env} {R : Room} {s : State} {m : MethodId} {args : Array Value} {below : List Frame} {meth : Method} {c : Code} {H : Heap} {locs : List Loc} {cells slots : Nat} {Q : State → Prop}
variable {cc : ByteArray} {pc mL : Nat} {rt : Option FieldType} {ls : Array Slot} {rest : List Value} {D : va_G} {A : Nat → Prop} {a tw : Nat} {cB cI cZ : ClassId} {tys : List (ClassId × FieldType)} {ws : va_W} {own : String}
theorem x_iret {ρ : Type} {vf : ρ → Option Value} {wf : ρ → va_W} {res v : ρ} {x : Int32} (C : Cx p s m args meth c cc mL (some .int) own D tys tw A) (h : v = res) (hv : vf v = some (.int x)) (hw : Wd D A s (wf v) H locs) (hdg : decode cc pc = .ok (.ireturn, 1)) :
    W p l e R s m args below meth c H locs 0 0 (MQ below (QG D tys A vf wf res) args s 0 0 A) (F0 m pc ls [.int x]) := by
  subst h
  obtain ⟨hx, hb, hml, hown, hts, hK, hlocks, hr, hZ, hA⟩ := C
  obtain ⟨hP, hD, hS⟩ := hw
  exact W.iret hx hb hr (fun t ht hW => ⟨⟨by rw [hv], by rw [ht]; exact hP, va_K.moved hW.alike hK, hD⟩, hS.F ht⟩) hS.2.2 hdg
theorem x_zret {ρ : Type} {vf : ρ → Option Value} {wf : ρ → va_W} {res v : ρ} {x : Int32} (C : Cx p s m args meth c cc mL (some .boolean) own D tys tw A) (h : v = res) (hn : zb x = true) (hv : vf v = some (.int x)) (hw : Wd D A s (wf v) H locs) (hdg : decode cc pc = .ok (.ireturn, 1)) :
    W p l e R s m args below meth c H locs 0 0 (MQ below (QG D tys A vf wf res) args s 0 0 A) (F0 m pc ls [.int x]) := by
  subst h
  obtain ⟨hx, hb, hml, hown, hts, hK, hlocks, hr, hZ, hA⟩ := C
  obtain ⟨hP, hD, hS⟩ := hw
  exact W.zret hx hb hr (zb_nar hn) (fun t ht hW => ⟨⟨by rw [hv], by rw [ht]; exact hP, va_K.moved hW.alike hK, hD⟩, hS.F ht⟩) hS.2.2 hdg
theorem x_vret {ρ : Type} {vf : ρ → Option Value} {wf : ρ → va_W} {res v : ρ} (C : Cx p s m args meth c cc mL none own D tys tw A) (h : v = res) (hv : vf v = none) (hw : Wd D A s (wf v) H locs) (hdg : decode cc pc = .ok (.return_, 1)) :
    W p l e R s m args below meth c H locs 0 0 (MQ below (QG D tys A vf wf res) args s 0 0 A) (F0 m pc ls []) := by
  subst h
  obtain ⟨hx, hb, hml, hown, hts, hK, hlocks, hr, hZ, hA⟩ := C
  obtain ⟨hP, hD, hS⟩ := hw
  exact W.vret hx hb hr (fun t ht hW => ⟨⟨by rw [hv], by rw [ht]; exact hP, va_K.moved hW.alike hK, hD⟩, hS.F ht⟩) hS.2.2 hdg
theorem x_aret {ρ : Type} {vf : ρ → Option Value} {wf : ρ → va_W} {res v : ρ} {x : Nat} {ty : FieldType} (C : Cx p s m args meth c cc mL (some ty) own D tys tw A) (h : v = res) (hty : (∃ n, ty = .object n) ∨ ∃ t, ty = .array t) (hv : vf v = some (.ref x)) (hw : Wd D A s (wf v) H locs) (hdg : decode cc pc = .ok (.areturn, 1)) :
    W p l e R s m args below meth c H locs 0 0 (MQ below (QG D tys A vf wf res) args s 0 0 A) (F0 m pc ls [.ref x]) := by
  subst h
  obtain ⟨hx, hb, hml, hown, hts, hK, hlocks, hr, hZ, hA⟩ := C
  obtain ⟨hP, hD, hS⟩ := hw
  exact W.aret hx hb hr hty (Or.inr ⟨x, rfl⟩) (fun t ht hW => ⟨⟨by rw [hv], by rw [ht]; exact hP, va_K.moved hW.alike hK, hD⟩, hS.F ht⟩) hS.2.2 hdg
theorem x_iald {n : Nat} {f : Nat → Int32} {i : Int32} (C : Cx p s m args meth c cc mL rt own D (tyL cB cI cZ) tw A) (hw : Wd D A s ws H locs) (q0 : Nat) (ha : ws[q0]? = some (a, .inl (cI, n, .inl f))) (hin : ixb i n = true) (hdg : decode cc pc = .ok (.iaload, 1))
    (kk : W p l e R s m args below meth c H locs cells slots Q (F0 m (pc + 1) ls (.int (f i.toNatClampNeg) :: rest))) : W p l e R s m args below meth c H locs cells slots Q (F0 m pc ls (.int i :: .ref a :: rest)) :=
  va_iald C.1 C.2.1 C.2.2.2.2.2.1 hw.1 q0 1 ha rfl (ixb_in hin) hdg kk
theorem x_bald {n : Nat} {f : Nat → Int32} {i : Int32} (C : Cx p s m args meth c cc mL rt own D (tyL cB cI cZ) tw A) (hw : Wd D A s ws H locs) (q0 : Nat) (ha : ws[q0]? = some (a, .inl (cB, n, .inl f))) (hin : ixb i n = true) (hdg : decode cc pc = .ok (.baload, 1))
    (kk : W p l e R s m args below meth c H locs cells slots Q (F0 m (pc + 1) ls (.int (f i.toNatClampNeg) :: rest))) : W p l e R s m args below meth c H locs cells slots Q (F0 m pc ls (.int i :: .ref a :: rest)) :=
  va_bald C.1 C.2.1 C.2.2.2.2.2.1 hw.1 q0 0 ha rfl (ixb_in hin) hdg kk
theorem x_zald {n : Nat} {f : Nat → Int32} {i : Int32} (C : Cx p s m args meth c cc mL rt own D (tyL cB cI cZ) tw A) (hw : Wd D A s ws H locs) (q0 : Nat) (ha : ws[q0]? = some (a, .inl (cZ, n, .inl f))) (hin : ixb i n = true) (hdg : decode cc pc = .ok (.baload, 1))
    (kk : W p l e R s m args below meth c H locs cells slots Q (F0 m (pc + 1) ls (.int (f i.toNatClampNeg) :: rest))) : W p l e R s m args below meth c H locs cells slots Q (F0 m pc ls (.int i :: .ref a :: rest)) :=
  va_zald C.1 C.2.1 C.2.2.2.2.2.1 hw.1 q0 2 ha rfl (ixb_in hin) hdg kk
theorem x_iast {n : Nat} {f : Nat → Int32} {i x : Int32} (ws' : va_W) (C : Cx p s m args meth c cc mL rt own D (tyL cB cI cZ) tw A) (hw : Wd D A s ws H locs) (q0 : Nat) (ha : ws[q0]? = some (a, .inl (cI, n, .inl f))) (hin : ixb i n = true) (hs : ws.set q0 (a, .inl (cI, n, .inl (upd f i.toNatClampNeg x))) = ws') (hdg : decode cc pc = .ok (.iastore, 1))
    (kk : ∀ (H1 : Heap) (locs1 : List Loc), Wd D A s ws' H1 locs1 → W p l e R s m args below meth c H1 locs1 cells slots Q (F0 m (pc + 1) ls rest)) : W p l e R s m args below meth c H locs cells slots Q (F0 m pc ls (.int x :: .int i :: .ref a :: rest)) := by
  subst hs
  exact va_iast C.1 C.2.1 C.2.2.2.2.2.1 hw.1 hw.2.1 hw.2.2 q0 1 ha rfl (ixb_in hin) hdg (fun H1 l1 a1 a2 a3 => kk H1 l1 ⟨a1, a2, a3⟩)
theorem x_bast {n : Nat} {f : Nat → Int32} {i x : Int32} (ws' : va_W) (C : Cx p s m args meth c cc mL rt own D (tyL cB cI cZ) tw A) (hw : Wd D A s ws H locs) (q0 : Nat) (ha : ws[q0]? = some (a, .inl (cB, n, .inl f))) (hin : ixb i n = true) (hs : ws.set q0 (a, .inl (cB, n, .inl (upd f i.toNatClampNeg (vp_nar .byte x)))) = ws') (hdg : decode cc pc = .ok (.bastore, 1))
    (kk : ∀ (H1 : Heap) (locs1 : List Loc), Wd D A s ws' H1 locs1 → W p l e R s m args below meth c H1 locs1 cells slots Q (F0 m (pc + 1) ls rest)) : W p l e R s m args below meth c H locs cells slots Q (F0 m pc ls (.int x :: .int i :: .ref a :: rest)) := by
  subst hs
  exact va_bast C.1 C.2.1 C.2.2.2.2.2.1 hw.1 hw.2.1 hw.2.2 q0 0 ha rfl (ixb_in hin) hdg (fun H1 l1 a1 a2 a3 => kk H1 l1 ⟨a1, a2, a3⟩)
theorem x_zast {n : Nat} {f : Nat → Int32} {i x : Int32} (ws' : va_W) (C : Cx p s m args meth c cc mL rt own D (tyL cB cI cZ) tw A) (hw : Wd D A s ws H locs) (q0 : Nat) (ha : ws[q0]? = some (a, .inl (cZ, n, .inl f))) (hin : ixb i n = true) (hs : ws.set q0 (a, .inl (cZ, n, .inl (upd f i.toNatClampNeg (vp_nar .boolean x)))) = ws') (hdg : decode cc pc = .ok (.bastore, 1))
    (kk : ∀ (H1 : Heap) (locs1 : List Loc), Wd D A s ws' H1 locs1 → W p l e R s m args below meth c H1 locs1 cells slots Q (F0 m (pc + 1) ls rest)) : W p l e R s m args below meth c H locs cells slots Q (F0 m pc ls (.int x :: .int i :: .ref a :: rest)) := by
  subst hs
  exact va_zast C.1 C.2.1 C.2.2.2.2.2.1 hw.1 hw.2.1 hw.2.2 q0 2 ha rfl (ixb_in hin) hdg (fun H1 l1 a1 a2 a3 => kk H1 l1 ⟨a1, a2, a3⟩)
theorem x_ilen {n : Nat} {f : Nat → Int32} (v : Int32) (C : Cx p s m args meth c cc mL rt own D (tyL cB cI cZ) tw A) (hw : Wd D A s ws H locs) (q0 t0 : Nat) {cA : ClassId} {ty : FieldType} (ha : ws[q0]? = some (a, .inl (cA, n, .inl f))) (ht : (tyL cB cI cZ)[t0]? = some (cA, ty)) (hv : Int32.ofNat n = v) (hdg : decode cc pc = .ok (.arraylength, 1))
    (kk : W p l e R s m args below meth c H locs cells slots Q (F0 m (pc + 1) ls (.int v :: rest))) : W p l e R s m args below meth c H locs cells slots Q (F0 m pc ls (.ref a :: rest)) :=
  va_alen C.1 C.2.1 C.2.2.2.2.2.1 hw.1 q0 t0 ha ht hv hdg kk
def covB (n : Nat) (isC isR : List Nat) : Bool := (List.range n).all (fun k => isC.contains k || isR.contains k)
theorem x_run {ρ : Type} {vf : ρ → Option Value} {wf : ρ → va_W} {res : ρ} {st0 stk : List Value} {a : Array Value} {wc : va_W} (ws' : va_W) (hK : va_K D vwCl tys s) (hA : ∀ q, s.heap.size ≤ q → A q) (hw : Wd D A s ws H locs) (isC isR : List Nat) (n : Nat) (wr : va_W) (hC : isC.map (fun i => ws[i]?) = wc.map some) (hs1 : isC.map (fun i => ws'[i]?) = (wf res).map some) (hs2 : isR.map (fun i => ws'[i]?) = wr.map some) (hs3 : isR.map (fun i => ws[i]?) = wr.map some) (hln : ws'.length = n) (hcv : covB n isC isR = true) (had : (wf res).map (·.1) = wc.map (·.1)) (hstk : (vf res).toList ++ rest = stk)
    (hr : va_Run p l e R s m args below meth c H locs cells slots 0 0 (F0 m pc ls st0) rest (QG D tys (va_A wc H.size) vf wf res a) (va_A wc H.size))
    (kk : ∀ (H1 : Heap) (locs1 : List Loc), Wd D A s ws' H1 locs1 → W p l e R s m args below meth c H1 locs1 cells slots Q (F0 m (pc + 3) ls stk)) : W p l e R s m args below meth c H locs cells slots Q (F0 m pc ls st0) := by
  obtain ⟨hP, hD, hS⟩ := hw
  have hF := va_free (wc := wc) hD hS hA isC hC
  intro T hT X
  obtain ⟨v, st₀, t, T', L, h0, X', hL, e1, e2, ⟨⟨hv, hP1, -, hD1⟩, hz, hk⟩, st⟩ := hr T hT X
  cases hv
  rw [h0] at hz hk
  subst hstk
  have hcase : ∀ (k : Nat) (q : Nat × va_E), ws'[k]? = some q → (∃ j : Nat, isC[j]? = some k ∧ (wf res)[j]? = some q) ∨ (k ∉ isC ∧ ws[k]? = some q) := by
    intro k q hkq
    by_cases hm : k ∈ isC
    · obtain ⟨j, hj⟩ := List.getElem?_of_mem hm
      have h1 : (isC.map (fun i => ws'[i]?))[j]? = some (some q) := by rw [List.getElem?_map, hj]; exact congrArg some hkq
      rw [hs1, List.getElem?_map] at h1
      cases hq : (wf res)[j]? with
      | none => rw [hq] at h1; cases h1
      | some q' => rw [hq] at h1; exact Or.inl ⟨j, hj, hq.trans (congrArg some (Option.some.inj (Option.some.inj h1)))⟩
    · have hlt : k < n := by
        rw [← hln]
        rcases Nat.lt_or_ge k ws'.length with z | z
        · exact z
        · rw [List.getElem?_eq_none z] at hkq; cases hkq
      have h2 := List.all_eq_true.mp hcv k (List.mem_range.mpr hlt)
      have h3 : k ∈ isR := by
        rcases (by simpa using h2 : k ∈ isC ∨ k ∈ isR) with z | z
        · exact absurd z hm
        · exact z
      obtain ⟨j, hj⟩ := List.getElem?_of_mem h3
      have h1 : (isR.map (fun i => ws'[i]?))[j]? = some (some q) := by rw [List.getElem?_map, hj]; exact congrArg some hkq
      rw [hs2, ← hs3, List.getElem?_map, hj] at h1
      exact Or.inr ⟨hm, Option.some.inj h1⟩
  have hat : ∀ (j i : Nat) (q : Nat × va_E), isC[j]? = some i → (wf res)[j]? = some q → ∃ q', ws[i]? = some q' ∧ q'.1 = q.1 ∧ wc[j]? = some q' := by
    intro j i q h1 h2
    have h3 : ((wf res).map (·.1))[j]? = some q.1 := by rw [List.getElem?_map, h2]; rfl
    rw [had, List.getElem?_map] at h3
    cases hq : wc[j]? with
    | none => rw [hq] at h3; cases h3
    | some q' =>
      rw [hq] at h3
      have h4 : (isC.map (fun i => ws[i]?))[j]? = some (some q') := by rw [hC, List.getElem?_map, hq]; rfl
      rw [List.getElem?_map, h1] at h4
      exact ⟨q', Option.some.inj h4, Option.some.inj h3, rfl⟩
  have hw1 : va_P D vwCl ws' t.heap := by
    intro k q hkq
    rcases hcase k q hkq with ⟨j, h1, h2⟩ | ⟨h1, h2⟩
    · exact hP1 j q h2
    · refine (hP k q h2).kept (hk q.1 (hP k q h2).lt ?_)
      rintro (⟨k2, e, h⟩ | h)
      · have h4 : (isC.map (fun i => ws[i]?))[k2]? = some (some (q.1, e)) := by rw [hC, List.getElem?_map, h]; rfl
        rw [List.getElem?_map] at h4
        cases hi : isC[k2]? with
        | none => rw [hi] at h4; cases h4
        | some i =>
          rw [hi] at h4
          have := hD.1 k i q (q.1, e) h2 (Option.some.inj h4) rfl
          subst this
          exact h1 (List.mem_of_getElem? hi)
      · have := (hP k q h2).lt; omega
  have hadr : ∀ (k : Nat) (q : Nat × va_E), ws'[k]? = some q → ∃ q', ws[k]? = some q' ∧ q'.1 = q.1 := by
    intro k q hkq
    rcases hcase k q hkq with ⟨j, h1, h2⟩ | ⟨h1, h2⟩
    · obtain ⟨q', a1, a2, -⟩ := hat j k q h1 h2
      exact ⟨q', a1, a2⟩
    · exact ⟨q, h2, rfl⟩
  have hw2 : va_D A ws' := by
    refine ⟨fun i j x y hx hy hxy => ?_, fun k q hq => ?_⟩
    · obtain ⟨x', a1, a2⟩ := hadr i x hx
      obtain ⟨y', b1, b2⟩ := hadr j y hy
      exact hD.1 i j x' y' a1 b1 (by rw [a2, b2, hxy])
    · obtain ⟨q', a1, a2⟩ := hadr k q hq
      rw [← a2]; exact hD.2 k q' a1
  obtain ⟨t2, a1, b1⟩ := kk T'.heap (locs ++ L) ⟨by rw [e1]; exact hw1, hw2, Nat.le_trans hS.1 (by rw [e1]; exact hz), fun q h1 h2 => by
      rw [e1, hk q (Nat.lt_of_lt_of_le h1 hS.1) (fun z => h2 (hF q z))]; exact hS.2.1 q h1 h2, fun q hq => by
      rcases List.mem_append.mp hq with h | h
      · exact hS.2.2 q h
      · exact hF _ (hL q h)⟩ T' rfl X'
  exact ⟨t2, st t2 a1, b1⟩
def rmK (f k : Nat) : Room := { frames := f, cells := 0, slots := 0, locals := k }
def CalV (y : MethodName) (Cn : String) (cc : ByteArray) (mL : Nat) (rt : Option FieldType) (n : Nat) : Prop := Cond.instanceMethod y ∈ LW ∧ Cond.selects Cn y y ∈ LW ∧ Cond.initialized Cn ∈ LW ∧ Cond.code y cc mL rt ∈ LW ∧ (y.cls = Cn ∧ y.cls ≠ "java/lang/invoke/MethodHandle" ∧ y.cls ≠ "java/lang/invoke/VarHandle" ∧ (parseMethodDescriptor y.desc).map (fun d => d.parameters.length) = some n)
def CalS (y : MethodName) (cc : ByteArray) (mL : Nat) (rt : Option FieldType) (n : Nat) : Prop := Cond.static y ∈ LW ∧ Cond.initialized y.cls ∈ LW ∧ Cond.code y cc mL rt ∈ LW ∧ (y.cls ≠ "java/lang/invoke/MethodHandle" ∧ y.cls ≠ "java/lang/invoke/VarHandle" ∧ (parseMethodDescriptor y.desc).map (fun d => d.parameters.length) = some n)
theorem good_in {y : MethodName} {cc : ByteArray} {mL : Nat} {rt : Option FieldType} (h : Cond.code y cc mL rt ∈ LW) : GoodIn LW (Cond.code y cc mL rt :: LW) := by
  intro w hw
  have hm : w ∈ LW := by
    rcases List.mem_cons.mp hw with e | e
    · rw [e]; exact h
    · exact e
  exact ⟨hm, good_of_word (List.mem_filter.mp hm).2⟩
theorem x_pre {wc : va_W} {As : List Value} (C : Cx p s m args meth c cc mL rt own D tys tw A) (hw : Wd D A s ws H locs) (isC : List Nat) (hnd : va_nd isC = true) (hC : isC.map (fun i => ws[i]?) = wc.map some) : PreS s H (va_Pc As (PreW D tys tw H.size wc)) As := by
  obtain ⟨hP, hD, hS⟩ := hw
  obtain ⟨-, -, -, -, -, hK, -, -, hZ, hA⟩ := C
  have hF := va_free (wc := wc) hD hS hA isC hC
  refine ⟨preW_blind, fun U hU hW => ⟨rfl, by rw [hU], ?_, va_K.moved hW.alike hK, (hD.sub isC hnd hC).weaken (fun _ _ _ _ => trivial), ?_⟩⟩
  · rw [hU]
    intro k q hq
    have h1 : (isC.map (fun i => ws[i]?))[k]? = some (some q) := by rw [hC, List.getElem?_map, hq]; rfl
    rw [List.getElem?_map] at h1
    cases hi : isC[k]? with
    | none => rw [hi] at h1; cases h1
    | some i => rw [hi] at h1; exact hP i q (Option.some.inj h1)
  · rw [hU]
    exact ((hZ.kept hS.2.1).narrow hF).moved hW.alike
theorem x_callV {ρ : Type} {y : MethodName} {Cn : String} {cc2 : ByteArray} {mL2 n idx f2 k2 b : Nat} {rt2 : Option FieldType} {As st0 stk : List Value} {wc : va_W} {vf : ρ → Option Value} {wf : ρ → va_W} {res : ρ} {q0 ci N2 : Nat} {fs : List Value} {T2 : u_T} (ws' : va_W) (C : Cx p s m args meth c cc mL rt own D tys tw A) (hw : Wd D A s ws H locs) (hM : Ctr l y cc2 mL2 rt2 (rmK f2 k2) D tys tw (.ref b :: As) wc vf wf res) (hcal : CalV y Cn cc2 mL2 rt2 n) (hlink : Cond.methodLink own idx y ∈ LW)
    (he : ws[q0]? = some (b, .inr (ci, fs))) (hc : vwCl[ci]? = some (Cn, T2, N2)) (isC isR : List Nat) (n9 : Nat) (wr : va_W) (hnd : va_nd isC = true) (hC : isC.map (fun i => ws[i]?) = wc.map some) (hs1 : isC.map (fun i => ws'[i]?) = (wf res).map some) (hs2 : isR.map (fun i => ws'[i]?) = wr.map some) (hs3 : isR.map (fun i => ws[i]?) = wr.map some) (hln : ws'.length = n9) (hcv : covB n9 isC isR = true) (had : (wf res).map (·.1) = wc.map (·.1)) (hst : st0 = As.reverse ++ .ref b :: rest) (hstk : (vf res).toList ++ rest = stk) (hn : As.length = n) (hcat : (rest.map fun v => v.category).sum ≤ 8) (hsz : ls.size = mL)
    (hR : f2 + 1 ≤ R.frames ∧ 8 + (mL2 + 11) + k2 ≤ R.locals) (hf : cells ≤ R.cells ∧ slots ≤ R.slots) (hdg : decode cc pc = .ok (.invokevirtual idx, 3))
    (kk : ∀ (H1 : Heap) (locs1 : List Loc), Wd D A s ws' H1 locs1 → W p l e R s m args below meth c H1 locs1 cells slots Q (F0 m (pc + 3) ls stk)) : W p l e R s m args below meth c H locs cells slots Q (F0 m pc ls st0) := by
  have hpre := x_pre (As := .ref b :: As) C hw isC hnd hC
  obtain ⟨hx, hb, hml, hown, hts, hK, hlocks, hr, hZ, hA⟩ := id C
  obtain ⟨w1, w2, w3, w4, w5, w6⟩ := hcal
  subst w5
  refine x_run ws' hK hA hw isC isR n9 wr hC hs1 hs2 hs3 hln hcv had hstk (va_runV (As := As) (rest := rest) ⟨hx, hb, hml, hown, hts⟩ (hM H.size) ⟨callB_of n hts (good_in w4) rfl rfl rfl (hts _ w3) (hts _ hlink) w6 hR, hts _ w1, hts _ w2⟩ ⟨hpre.1, va_recv hK hw.1 hc he, hpre.2⟩ rfl hn hsz hst (lv_room hcat) hdg hf) kk
theorem x_callS {ρ : Type} {y : MethodName} {cc2 : ByteArray} {mL2 n idx f2 k2 : Nat} {rt2 : Option FieldType} {As st0 stk : List Value} {wc : va_W} {vf : ρ → Option Value} {wf : ρ → va_W} {res : ρ} (ws' : va_W) (C : Cx p s m args meth c cc mL rt own D tys tw A) (hw : Wd D A s ws H locs) (hM : Ctr l y cc2 mL2 rt2 (rmK f2 k2) D tys tw As wc vf wf res) (hcal : CalS y cc2 mL2 rt2 n) (hlink : Cond.methodLink own idx y ∈ LW)
    (isC isR : List Nat) (n9 : Nat) (wr : va_W) (hnd : va_nd isC = true) (hC : isC.map (fun i => ws[i]?) = wc.map some) (hs1 : isC.map (fun i => ws'[i]?) = (wf res).map some) (hs2 : isR.map (fun i => ws'[i]?) = wr.map some) (hs3 : isR.map (fun i => ws[i]?) = wr.map some) (hln : ws'.length = n9) (hcv : covB n9 isC isR = true) (had : (wf res).map (·.1) = wc.map (·.1)) (hst : st0 = As.reverse ++ rest) (hstk : (vf res).toList ++ rest = stk) (hn : As.length = n) (hcat : (rest.map fun v => v.category).sum ≤ 8) (hsz : ls.size = mL)
    (hR : f2 + 1 ≤ R.frames ∧ 8 + (mL2 + 11) + k2 ≤ R.locals) (hf : cells ≤ R.cells ∧ slots ≤ R.slots) (hdg : decode cc pc = .ok (.invokestatic idx, 3))
    (kk : ∀ (H1 : Heap) (locs1 : List Loc), Wd D A s ws' H1 locs1 → W p l e R s m args below meth c H1 locs1 cells slots Q (F0 m (pc + 3) ls stk)) : W p l e R s m args below meth c H locs cells slots Q (F0 m pc ls st0) := by
  have hpre := x_pre (As := As) C hw isC hnd hC
  obtain ⟨hx, hb, hml, hown, hts, hK, hlocks, hr, hZ, hA⟩ := id C
  obtain ⟨w1, w3, w4, w6⟩ := hcal
  refine x_run ws' hK hA hw isC isR n9 wr hC hs1 hs2 hs3 hln hcv had hstk (va_runS (As := As) (rest := rest) ⟨hx, hb, hml, hown, hts⟩ (hM H.size) ⟨callB_of n hts (good_in w4) rfl rfl rfl (hts _ w3) (hts _ hlink) w6 hR, hts _ w1⟩ hpre rfl hn hsz hst (lv_room hcat) hdg hf) kk
theorem x_stW (C : Cx p s m args meth c cc mL rt own D tys tw A) (hw : Wd D A s ws H locs) {index : Nat} (hlink : Cond.fieldLink own index "CompactDisc$Speller" "WORDS" "[I" ∈ LW) (hdg : decode cc pc = .ok (.getstatic index, 3))
    (kk : W p l e R s m args below meth c H locs cells slots Q (F0 m (pc + 3) ls (.ref tw :: rest))) : W p l e R s m args below meth c H locs cells slots Q (F0 m pc ls rest) :=
  va_gets C.1 C.2.1 C.2.2.2.2.2.2.2.2.1.1 hw.2.2 C.2.2.2.1 (C.2.2.2.2.1 _ hlink) (fun _ h => h) hdg kk
theorem x_wald {i : Int32} (C : Cx p s m args meth c cc mL rt own D tys tw A) (hw : Wd D A s ws H locs) (hin : ixb i 256 = true) (hdg : decode cc pc = .ok (.iaload, 1))
    (kk : W p l e R s m args below meth c H locs cells slots Q (F0 m (pc + 1) ls (.int (wordsF i.toNatClampNeg) :: rest))) : W p l e R s m args below meth c H locs cells slots Q (F0 m pc ls (.int i :: .ref tw :: rest)) :=
  va_ti C.1 C.2.1 C.2.2.2.2.2.2.2.2.1.2 hw.2.2 (ixb_in hin) rfl hdg kk
theorem x_wlen (C : Cx p s m args meth c cc mL rt own D tys tw A) (hw : Wd D A s ws H locs) (hdg : decode cc pc = .ok (.arraylength, 1))
    (kk : W p l e R s m args below meth c H locs cells slots Q (F0 m (pc + 1) ls (.int 256 :: rest))) : W p l e R s m args below meth c H locs cells slots Q (F0 m pc ls (.ref tw :: rest)) :=
  va_tlen C.1 C.2.1 C.2.2.2.2.2.2.2.2.1.2 hw.2.2 rfl hdg kk
end XW
