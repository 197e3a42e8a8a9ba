/-! ===== what holds between the class's state and the reference's ===== -/
def rdF (w : Nat) : Int32 := match (List.range 256).find? (fun b => wordsF b == nI w) with
  | some b => nI b
  | none => -1
def g2 (x : Nat) : Nat := if 255 < 2 * x then (2 * x) ^^^ 285 else 2 * x
def gp : Nat → Nat
  | 0 => 1
  | n + 1 => g2 (gp n)
def TabF (pw lg : Nat → Int32) : Prop := (∀ i, i < 510 → pw i = nI (gp i)) ∧ ∀ i, i < 255 → lg (gp i) = nI i
def IC (a4 a5 a7 a8 : Int32) (pw lg kn sq mw mb mp ml : Nat → Int32) : Prop :=
  a4 = 32 ∧ a5 = 28 ∧ a7 = 28 ∧ a8 = 12 ∧ TabF pw lg ∧ (∀ w : Nat, w < 16384 → fX8_byteOf kn sq (nI w) = some (rdF w)) ∧ (∀ j : Nat, j < 256 → mw j = wordsF j) ∧ (∀ w : Nat, w < 16384 → mb w = rdF w) ∧ TabF mp ml
def isB (x : Int32) : Prop := -128 ≤ x.toInt ∧ x.toInt ≤ 127
def IS (fed : Int32) (st : Nat → Int32) (msz : Int32) (mst : Nat → Int32) : Prop := fed = msz ∧ st = mst ∧ 0 ≤ fed.toInt ∧ fed.toInt ≤ 11712 ∧ ∀ j, isB (st j)
def IE (ents start : Int32) (sc ct tr ix : Nat → Int32) (mb me : Int32) (msc mct mtr mix : Nat → Int32) : Prop :=
  ents = me ∧ start = mb ∧ sc = msc ∧ ct = mct ∧ tr = mtr ∧ ix = mix ∧ 0 ≤ ents.toInt ∧ ents.toInt ≤ 20 ∧ 0 ≤ start.toInt ∧ start.toInt ≤ 400000 ∧
  ∀ j : Nat, (j : Int) < ents.toInt → (0 ≤ (sc j).toInt ∧ (sc j).toInt ≤ 9) ∧ (0 ≤ (ct j).toInt ∧ (ct j).toInt ≤ 15) ∧ (1 ≤ (tr j).toInt ∧ (tr j).toInt ≤ 99) ∧ (0 ≤ (ix j).toInt ∧ (ix j).toInt ≤ 99)
def b01 (b : Bool) : Int32 := if b then 1 else 0
def IB (mk : Int32) (be mbe mmk : Nat → Int32) : Prop := ∀ i : Nat, i < 32 → isB (be i) ∧ be i &&& 255 = mbe i ∧ 0 ≤ (mbe i).toInt ∧ (mbe i).toInt ≤ 255 ∧ mmk i = b01 (bt mk i)
def pbit (pk : Nat → Int32) (i : Nat) : Bool := bt (pk (i / 32)) (31 - i % 32)
def ID (n : Nat) (sz pr : Int32) (pk : Nat → Int32) (len mpr msf : Int32) (bi : Nat → Int32) : Prop :=
  sz = len ∧ pr = mpr ∧ ((pr = 0 ∧ sz = 0) ∨ ∃ sf N : Nat, 1 ≤ sf ∧ sf ≤ 488 ∧ msf = nI sf ∧ pr = nI (sf + 111) ∧ sz = nI N ∧ 65856 ≤ N + 600 * n ∧ N ≤ 360000) ∧
  (∀ i : Nat, (i : Int) < sz.toInt → bi i = b01 (pbit pk i)) ∧ ∀ i : Nat, sz.toInt ≤ i → i < 360000 → pbit pk i = false
/-- where byte i of the stream stands among the outer words: row and place -/
def rwOf (o : Nat) : Nat := if o / 4 % 2 = 0 then 2 else 0
def plOf (o : Nat) : Nat := if o / 4 % 2 = 0 then 6 * (o / 2 % 2) + o / 4 + o % 2 else 16 + 6 * (o / 2 % 2) + o / 4 - 1 + o % 2
/-- what is heard of a side, sample by sample -/
def okF (su : Nat → Int32) (S side k : Nat) : Bool := decide (k < 6 * S) && (!decide (su (4 * k + 2 * side) = 0) && !decide (su (4 * k + 2 * side + 1) = 0))
def smF (go : Nat → Int32) (side k : Nat) : Int32 := ((go (4 * k + 2 * side) <<< ((8 : Int32) &&& 31)) ||| go (4 * k + 2 * side + 1)).toInt16.toInt32
def hearF (go su : Nat → Int32) (S side : Nat) : Nat → Int32 × Nat
  | 0 => (0, 0)
  | i + 1 => if okF su S side i then (smF go side i, (hearF go su S side i).2) else (if okF su S side (i + 1) then ((hearF go su S side i).1 + smF go side (i + 1)) >>> ((1 : Int32) &&& 31) else (hearF go su S side i).1, (hearF go su S side i).2 + 1)
def secF (bd : Nat → Int32) (f : Nat) (k : Nat) : Bool := decide (k + 1 < f) && decide (bd k = 2049) && decide (bd (k + 1) = 18)
def secN (bd : Nat → Int32) (f : Nat) : Nat → Nat
  | 0 => 0
  | k + 1 => secN bd f k + if secF bd f k then 1 else 0
def IP (done found sf : Int32) (cells marks bes iF oF smp tal : Nat → Int32) (mpr msf mip mfo mst mif mof mmo mun : Int32) (mbe mit mot mgo msu : Nat → Int32) : Prop :=
  done = mip ∧ (done = 0 ∨ (done = 1 ∧ ∃ f S : Nat, f ≤ 640 ∧ 1 ≤ S ∧ S ≤ 488 ∧ found = nI f ∧ mfo = nI f ∧ sf = nI S ∧ msf = nI S ∧
    (∀ k : Nat, k < f → bes k = mbe k ∧ 0 ≤ (bes k).toInt ∧ (bes k).toInt < 16384 ∧ iF k = mit k ∧ oF k = mot k) ∧
    (∀ i : Nat, i < 24 * S → mgo i = (if i / 24 + rwOf (i % 24) < f then cells ((i / 24 + rwOf (i % 24)) * 32 + plOf (i % 24)) &&& 255 else 0) ∧ msu i = b01 (decide (i / 24 + rwOf (i % 24) < f) && !bt (marks (i / 24 + rwOf (i % 24))) (plOf (i % 24)))) ∧
    (∀ k : Nat, k < 6 * S → smp (2 * k) = (hearF mgo msu S 0 (k + 1)).1 ∧ smp (2 * k + 1) = (hearF mgo msu S 1 (k + 1)).1) ∧
    tal 0 = mst ∧ tal 1 = mif ∧ tal 2 = mof ∧ tal 3 = mun ∧ tal 4 = nI ((hearF mgo msu S 0 (6 * S)).2 + (hearF mgo msu S 1 (6 * S)).2) ∧ tal 5 = mmo ∧ tal 6 = nI f ∧ tal 7 = nI (secN mbe f f)))
def Inv (n : Nat) (xi : Nat → Int32) (xa : Nat → Nat → Int32) (xl : Int64) (mi : Nat → Int32) (ma : Nat → Nat → Int32) : Prop :=
  IC (xi 4) (xi 5) (xi 7) (xi 8) (xa 0) (xa 1) (xa 9) (xa 10) (ma 0) (ma 1) (ma 2) (ma 3) ∧
  IS (xi 0) (xa 4) (mi 1) (ma 4) ∧
  IE (xi 2) (xi 3) (xa 5) (xa 6) (xa 7) (xa 8) (mi 2) (mi 3) (ma 5) (ma 6) (ma 7) (ma 8) ∧
  IB (xi 1) (xa 28) (ma 27) (ma 28) ∧
  ID n (xi 10) (xi 11) (xa 19) (mi 4) (mi 5) (mi 6) (ma 9) ∧
  IP (xi 15) (xi 16) (xi 17) (xa 2) (xa 3) (xa 23) (xa 24) (xa 25) (xa 26) (xa 27) (mi 5) (mi 6) (mi 11) (mi 12) (mi 13) (mi 14) (mi 15) (mi 16) (mi 17) (ma 24) (ma 19) (ma 22) (ma 25) (ma 26)
theorem ID.mono {n : Nat} {sz pr : Int32} {pk : Nat → Int32} {len mpr msf : Int32} {bi : Nat → Int32} (h : ID n sz pr pk len mpr msf bi) : ID (n + 1) sz pr pk len mpr msf bi := by
  obtain ⟨h1, h2, h3, h4⟩ := h
  refine ⟨h1, h2, ?_, h4⟩
  rcases h3 with h | ⟨sf, N, a1, a2, a3, a4, a5, a6, a7⟩
  · exact Or.inl h
  · exact Or.inr ⟨sf, N, a1, a2, a3, a4, a5, by omega, a7⟩
theorem Inv.mono (n : Nat) (xi : Nat → Int32) (xa : Nat → Nat → Int32) (xl : Int64) (mi : Nat → Int32) (ma : Nat → Nat → Int32) (_ : n < 64) (h : Inv n xi xa xl mi ma) : Inv (n + 1) xi xa xl mi ma := ⟨h.1, h.2.1, h.2.2.1, h.2.2.2.1, h.2.2.2.2.1.mono, h.2.2.2.2.2⟩
