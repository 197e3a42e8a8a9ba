/-! ===== press: the contents ===== -/
theorem entL {E : Nat} {sc : Nat → Int32} {x : Int32} (hE : E ≤ 20) : ∀ (F k : Nat) (r : Int32), k ≤ E → E - k < F → (r = -1 ∨ ∃ q, q < E ∧ r = nI q) →
    ∃ r', fX1_entryFor_L4 (nI E) x sc F (nI k) r = some r' ∧ fX10_entryFor_L4 (nI E) x sc F (nI k) r = some r' ∧ (r' = -1 ∨ ∃ q, q < E ∧ r' = nI q) := by
  intro F
  induction F with
  | zero => intro k r _ h; omega
  | succ F ih =>
    intro k r hk hF hr
    rw [fX1_entryFor_L4.eq_2, fX10_entryFor_L4.eq_2]
    by_cases hc : E ≤ k
    · rw [if_pos (nI_le hc (by omega)), if_pos (nI_le hc (by omega))]
      exact ⟨r, rfl, rfl, hr⟩
    · rw [if_neg (nI_ge (by omega) (by omega)), if_neg (nI_ge (by omega) (by omega)), if_neg (show ¬ (20 : Int32) ≤ nI k from nI_ge (b := 20) (by omega) (by omega)), og_nI (by omega) (by omega), og_nI (by omega) (by omega), nI_clamp (by omega)]
      simp only [jkE, nmE]
      rw [nI_1]
      have up := ih (k + 1) (nI k) (by omega) (by omega) (Or.inr ⟨k, by omega, rfl⟩)
      have st := ih (k + 1) r (by omega) (by omega) hr
      by_cases h1 : x < sc k
      · rw [if_pos h1, if_pos h1]; exact st
      · rw [if_neg h1, if_neg h1]
        rcases hr with rfl | ⟨q, hq, rfl⟩
        · rw [if_pos rfl, if_pos (by decide)]; exact up
        · rw [if_neg (nI_m1 (by omega)), if_neg (nI_pos (by omega)), og_nI (show k < 20 from by omega) (by omega), og_nI (show k < 20 from by omega) (by omega), og_nI (show q < 20 from by omega) (by omega), og_nI (show q < 20 from by omega) (by omega), nI_clamp (by omega)]
          by_cases h2 : sc k < sc q
          · rw [if_pos h2, if_pos h2]; exact st
          · rw [if_neg h2, if_neg h2]; exact up
theorem cont {ents start mb me : Int32} {sc ct tr ix msc mct mtr mix : Nat → Int32} (hE : IE ents start sc ct tr ix mb me msc mct mtr mix) (x : Int32) :
    ∃ (r : Int32) (T I C : Nat), (1 ≤ T ∧ T ≤ 99) ∧ I ≤ 99 ∧ C ≤ 15 ∧ fX1_entryFor ents sc x = some r ∧ fX1_controlOf ct r = some (nI C) ∧ fX1_trackOf tr r = some (nI T) ∧ fX1_indexOf ix r = some (nI I) ∧ fX10_entryFor me msc x = some r ∧ fX10_trackOf me msc mtr x = some (nI T) ∧ fX10_indexOf me mix msc x = some (nI I) ∧ (∀ (β : Type) (j : Int32 → Option β), (if 0 ≤ r then og (ixb r 20) (j (mct (Int32.toNatClampNeg r))) else j 0) = j (nI C)) := by
  obtain ⟨e1, e2, e3, e4, e5, e6, e7, e8, e9, e10, e11⟩ := hE
  subst e1; subst e3; subst e4; subst e5; subst e6
  obtain ⟨E, hE1, rfl⟩ := i_of e7
  rw [nI_ti hE1] at e8 e11
  obtain ⟨r, a1, a2, a3⟩ := entL (E := E) (sc := sc) (x := x) (by omega) FU 0 (-1) (by omega) (by rw [FU_eq]; omega) (Or.inl rfl)
  have a1' : fX1_entryFor (nI E) sc x = some r := a1
  have a2' : fX10_entryFor (nI E) sc x = some r := a2
  unfold fX1_controlOf fX1_trackOf fX1_indexOf fX10_trackOf fX10_indexOf
  rw [a1', a2', ob1E, ob1E, ob1E, ob1E]
  rcases a3 with rfl | ⟨q, hq, rfl⟩
  · refine ⟨-1, 1, 1, 0, by omega, by omega, by omega, rfl, by rw [show fX1_isEntry (-1) = 0 from by decide, nt1E, if_pos rfl]; rfl, by rw [show fX1_isEntry (-1) = 0 from by decide, nt1E, if_pos rfl]; rfl, by rw [show fX1_isEntry (-1) = 0 from by decide, nt1E, if_pos rfl]; rfl, rfl, by rw [if_neg (by decide)]; rfl, by rw [if_neg (by decide)]; rfl, fun β j => ?_⟩
    rw [if_neg (by decide)]; rfl
  · obtain ⟨_, ⟨c1, c2⟩, ⟨t1, t2⟩, ⟨i1, i2⟩⟩ := e11 q (by omega)
    obtain ⟨C, hC, eC⟩ := i_of c1
    obtain ⟨T, hT, eT⟩ := i_of (show 0 ≤ (tr q).toInt from by omega)
    obtain ⟨I, hI, eI⟩ := i_of i1
    rw [eC, nI_ti hC] at c2
    rw [eT, nI_ti hT] at t1 t2
    rw [eI, nI_ti hI] at i2
    have he : fX1_isEntry (nI q) = 1 := by
      unfold fX1_isEntry
      rw [if_neg (nI_pos (by omega)), if_neg (show ¬ (20 : Int32) ≤ nI q from nI_ge (b := 20) (by omega) (by omega))]
    refine ⟨nI q, T, I, C, by omega, by omega, by omega, rfl, ?_, ?_, ?_, rfl, ?_, ?_, fun β j => ?_⟩
    · rw [he, nt1E, if_neg ne10, og_nI (by omega) (by omega), nI_clamp (by omega), eC]
    · rw [he, nt1E, if_neg ne10, og_nI (by omega) (by omega), nI_clamp (by omega), eT]
    · rw [he, nt1E, if_neg ne10, og_nI (by omega) (by omega), nI_clamp (by omega), eI]
    · rw [if_pos (nI_pos' (by omega)), og_nI (by omega) (by omega), nI_clamp (by omega), eT]
    · rw [if_pos (nI_pos' (by omega)), og_nI (by omega) (by omega), nI_clamp (by omega), eI]
    · rw [if_pos (nI_pos' (by omega)), og_nI (by omega) (by omega), nI_clamp (by omega), eC]
def ConF (ents : Int32) (sc ct tr ix : Nat → Int32) (me : Int32) (msc mct mtr mix : Nat → Int32) (r : Nat → Int32) (T I C : Nat → Nat) : Prop := ∀ x : Nat,
    (1 ≤ T x ∧ T x ≤ 99) ∧ I x ≤ 99 ∧ C x ≤ 15 ∧ fX1_entryFor ents sc (nI x) = some (r x) ∧ fX1_controlOf ct (r x) = some (nI (C x)) ∧ fX1_trackOf tr (r x) = some (nI (T x)) ∧ fX1_indexOf ix (r x) = some (nI (I x)) ∧ fX10_entryFor me msc (nI x) = some (r x) ∧ fX10_trackOf me msc mtr (nI x) = some (nI (T x)) ∧ fX10_indexOf me mix msc (nI x) = some (nI (I x)) ∧ (∀ (β : Type) (j : Int32 → Option β), (if 0 ≤ r x then og (ixb (r x) 20) (j (mct (Int32.toNatClampNeg (r x)))) else j 0) = j (nI (C x)))
theorem con_ex {ents start mb me : Int32} {sc ct tr ix msc mct mtr mix : Nat → Int32} (hE : IE ents start sc ct tr ix mb me msc mct mtr mix) : ∃ r T I C, ConF ents sc ct tr ix me msc mct mtr mix r T I C :=
  ⟨fun x => Classical.choose (cont hE (nI x)), fun x => Classical.choose (Classical.choose_spec (cont hE (nI x))), fun x => Classical.choose (Classical.choose_spec (Classical.choose_spec (cont hE (nI x)))), fun x => Classical.choose (Classical.choose_spec (Classical.choose_spec (Classical.choose_spec (cont hE (nI x))))), fun x => Classical.choose_spec (Classical.choose_spec (Classical.choose_spec (Classical.choose_spec (cont hE (nI x)))))⟩
theorem belE {ents me : Int32} {sc ct tr ix msc mct mtr mix : Nat → Int32} {r : Nat → Int32} {T I C : Nat → Nat} (hc : ConF ents sc ct tr ix me msc mct mtr mix r T I C) (x y : Nat) : fX1_belongs ix tr (r x) (r y) = some (b01 (decide (T x = T y) && (decide (I x = 0) == decide (I y = 0)))) := by
  obtain ⟨t1, i1, _, _, _, a1, a2, _⟩ := hc x
  obtain ⟨t2, i2, _, _, _, b1, b2, _⟩ := hc y
  unfold fX1_belongs
  rw [a1, b1, ob1E, ob1E, a2, b2, ob1E]
  simp only [jkE, ob1E]
  by_cases h : T x = T y
  · rw [if_pos (show nI (T x) = nI (T y) from congrArg nI h), decide_eq_true h]
    by_cases h1 : I x = 0
    · rw [h1, if_pos (show nI 0 = (0 : Int32) from rfl)]
      by_cases h2 : I y = 0
      · rw [h2, if_pos (show nI 0 = (0 : Int32) from rfl), if_pos trivial]; rfl
      · rw [if_neg (nI_ne0 (by omega) (by omega)), if_neg ne10, decide_eq_false h2]; rfl
    · rw [if_neg (nI_ne0 (by omega) (by omega)), decide_eq_false h1]
      by_cases h2 : I y = 0
      · rw [h2, if_pos (show nI 0 = (0 : Int32) from rfl), if_neg (by decide)]; rfl
      · rw [if_neg (nI_ne0 (by omega) (by omega)), if_pos trivial, decide_eq_false h2]; rfl
  · rw [if_neg (fun z => h ((nI_eq (by omega) (by omega)).mp z)), decide_eq_false h]; rfl
theorem tmP {ents me : Int32} {sc ct tr ix msc mct mtr mix : Nat → Int32} {r : Nat → Int32} {T I C : Nat → Nat} (hc : ConF ents sc ct tr ix me msc mct mtr mix r T I C) {x S p : Nat} (hS : S = (p + 97) / 98) (hp : p ≤ 599) (hI : I x = 0) : ∀ (F t : Nat), x + t ≤ S → S - (x + t) < F → ∃ t', t' ≤ S ∧ fX1_timeOf_L20 (nI S) ents sc ix tr (r x) F (nI (x + t)) (nI t) = some (nI t') ∧ fX10_timeOf_L55 (nI p) (nI x) me msc mtr mix F (nI t) = some (nI t') := by
  intro F
  induction F with
  | zero => intro t _ h; omega
  | succ F ih =>
    intro t ht hF
    rw [fX1_timeOf_L20.eq_2, fX10_timeOf_L55.eq_2, show nI p + (97 : Int32) = nI (p + 97) from nI_add p 97, show nI (p + 97) / (98 : Int32) = nI ((p + 97) / 98) from pk_div (d := 98) (by omega) (by omega) (by omega), ← hS, nI_add]
    by_cases h1 : S ≤ x + t
    · rw [if_pos (nI_le h1 (by omega)), if_pos (nI_le h1 (by omega))]
      exact ⟨t, by omega, rfl, rfl⟩
    · obtain ⟨t1, i1, _, _, _, _, _, _, a1, a2, _⟩ := hc x
      obtain ⟨t2, i2, _, b0, _, _, _, _, b1, b2, _⟩ := hc (x + t)
      rw [if_neg (nI_ge (by omega) (by omega)), if_neg (nI_ge (by omega) (by omega)), b0, ob1E, belE hc, ob1E, b1, ob1E, a1, ob1E, b2, hI]
      simp only [nmE, ob1E]
      rw [nI_1, nI_1]
      by_cases h2 : T (x + t) = T x
      · rw [if_pos (show nI (T (x + t)) = nI (T x) from congrArg nI h2), decide_eq_true h2.symm]
        by_cases h3 : I (x + t) = 0
        · rw [h3, if_pos (show nI 0 = (0 : Int32) from rfl), if_neg (by decide)]
          exact ih (t + 1) (by omega) (by omega)
        · rw [if_neg (nI_ne0 (by omega) (by omega)), decide_eq_false h3, if_pos (by decide)]
          exact ⟨t, by omega, rfl, rfl⟩
      · rw [if_neg (fun z => h2 ((nI_eq (by omega) (by omega)).mp z)), decide_eq_false (fun z => h2 (Eq.symm z)), if_pos (by rfl)]
        exact ⟨t, by omega, rfl, rfl⟩
theorem tmN {ents me : Int32} {sc ct tr ix msc mct mtr mix : Nat → Int32} {r : Nat → Int32} {T I C : Nat → Nat} (hc : ConF ents sc ct tr ix me msc mct mtr mix r T I C) {x : Nat} (hx : x ≤ 10) (hI : ¬ I x = 0) : ∀ (F K t : Nat), K + t = x → K < F → ∃ t', t' ≤ x ∧ fX1_timeOf_L57 ents sc ix tr (r x) F (dn K) (nI t) = some (nI t') ∧ fX10_timeOf_L10 (nI x) me msc mtr mix F (nI t) = some (nI t') := by
  intro F
  induction F with
  | zero => intro K t _ h; omega
  | succ F ih =>
    intro K t ht hF
    rw [fX1_timeOf_L57.eq_2, fX10_timeOf_L10.eq_2, pk_sub (show t ≤ x from by omega), show x - t = K from by omega, dn_m]
    cases K with
    | zero =>
      rw [if_pos dn_0, if_pos dn_0]
      exact ⟨t, by omega, rfl, rfl⟩
    | succ w =>
      obtain ⟨t1, i1, _, _, _, _, _, _, a1, a2, _⟩ := hc x
      obtain ⟨t2, i2, _, b0, _, _, _, _, b1, b2, _⟩ := hc w
      rw [show dn (w + 1) = nI w from rfl, if_neg (nI_pos (by omega)), if_neg (nI_pos (by omega)), b0, ob1E, belE hc, ob1E, b1, ob1E, a1, ob1E, b2, decide_eq_false hI]
      simp only [nmE, ob1E]
      rw [nI_1, dn_s]
      by_cases h2 : T w = T x
      · rw [if_pos (show nI (T w) = nI (T x) from congrArg nI h2), decide_eq_true h2.symm]
        by_cases h3 : I w = 0
        · rw [h3, if_pos (show nI 0 ≤ (0 : Int32) from by decide), if_pos (by decide)]
          exact ⟨t, by omega, rfl, rfl⟩
        · rw [if_neg (show ¬ nI (I w) ≤ 0 from nI_ge (a := 0) (b := I w) (by omega) (by omega)), decide_eq_false h3, if_neg (by decide)]
          exact ih w (t + 1) (by omega) (by omega)
      · rw [if_neg (fun z => h2 ((nI_eq (by omega) (by omega)).mp z)), decide_eq_false (fun z => h2 (Eq.symm z)), if_pos (by rfl)]
        exact ⟨t, by omega, rfl, rfl⟩
theorem timE {ents me : Int32} {sc ct tr ix msc mct mtr mix : Nat → Int32} {r : Nat → Int32} {T I C : Nat → Nat} (hc : ConF ents sc ct tr ix me msc mct mtr mix r T I C) {x S p : Nat} (hS : S = (p + 97) / 98) (hp : p ≤ 599) (hx : x < S) : ∃ t, t ≤ 10 ∧ fX1_timeOf ents ix sc tr (nI x) (nI S) = some (nI t) ∧ fX10_timeOf me (nI p) mix msc mtr (nI x) = some (nI t) := by
  obtain ⟨_, i1, _, a0, _, _, a1, _, _, a2, _⟩ := hc x
  unfold fX1_timeOf fX10_timeOf
  rw [a0, ob1E, a1, ob1E, a2, ob1E]
  by_cases h : I x = 0
  · obtain ⟨t, h1, h2, h3⟩ := tmP hc hS hp h FU 0 (by omega) (by rw [FU_eq]; omega)
    rw [h, if_pos (show nI 0 = (0 : Int32) from rfl), if_pos (show nI 0 ≤ (0 : Int32) from by decide)]
    exact ⟨t, by omega, h2, h3⟩
  · obtain ⟨t, h1, h2, h3⟩ := tmN hc (x := x) (by omega) h FU x 0 (by omega) (by rw [FU_eq]; omega)
    rw [if_neg (nI_ne0 (by omega) (by omega)), nmE, dn_m, if_neg (show ¬ nI (I x) ≤ 0 from nI_ge (a := 0) (b := I x) (by omega) (by omega))]
    exact ⟨t, by omega, h2, h3⟩
