/-! ===== play: inner words mended, on both sides ===== -/
theorem ob9E {A B C D E G H I J β : Type} (x : A) (y : B) (z : C) (u : D) (v : E) (w : G) (t : H) (s : I) (r : J) (k : A → B → C → D → E → G → H → I → J → Option β) : ob9 (some (x, y, z, u, v, w, t, s, r)) k = k x y z u v w t s r := (rfl : ob9 (some (x, y, z, u, v, w, t, s, r)) k = k x y z u v w t s r).trans rfl
theorem ob10E {A B C D E G H I J K β : Type} (x : A) (y : B) (z : C) (u : D) (v : E) (w : G) (t : H) (s : I) (r : J) (q : K) (k : A → B → C → D → E → G → H → I → J → K → Option β) : ob10 (some (x, y, z, u, v, w, t, s, r, q)) k = k x y z u v w t s r q := (rfl : ob10 (some (x, y, z, u, v, w, t, s, r, q)) k = k x y z u v w t s r q).trans rfl
theorem ob11E {A B C D E G H I J K L β : Type} (x : A) (y : B) (z : C) (u : D) (v : E) (w : G) (t : H) (s : I) (r : J) (q : K) (p : L) (k : A → B → C → D → E → G → H → I → J → K → L → Option β) : ob11 (some (x, y, z, u, v, w, t, s, r, q, p)) k = k x y z u v w t s r q p := (rfl : ob11 (some (x, y, z, u, v, w, t, s, r, q, p)) k = k x y z u v w t s r q p).trans rfl
theorem zbool (b : Bool) : vp_nar .boolean (b01 b) = b01 b := by cases b <;> rfl
/-- -1 for a word that failed, else 0 -/
def fl (r : Int32) : Int32 := if r = (-2 : Int32) then -1 else 0
def Fate (r : Int32) : Prop := r = -2 ∨ ∃ k : Nat, k ≤ 4 ∧ r = nI k
theorem fate_ge {r : Int32} (h : Fate r) : (0 ≤ r) ↔ ¬ r = (-2 : Int32) := by
  rcases h with rfl | ⟨k, hk, rfl⟩
  · exact ⟨fun z => absurd z (by decide), fun z => absurd rfl z⟩
  · refine ⟨fun _ z => ?_, fun _ => nI_pos' (by omega)⟩
    have := congrArg Int32.toInt z
    rw [nI_ti (by omega)] at this
    have e2 : (-2 : Int32).toInt = -2 := by decide
    omega
theorem mendI {pwr lg : Nat → Int32} {w : Nat} {q : Int32} {sp r sp' : Int32} {loc rest spots sums loc' rest' spots' sums' c c' mk iF tl : Nat → Int32} (hw : w < 640) (hh : fX0_heal 32 sp loc rest spots sums lg pwr c 20480 (nI (w * 32)) (mk w) q = some (r, sp', loc', rest', spots', sums', c')) :
    ∃ tl', fX5_mendInner 32 sp iF tl loc rest spots sums c mk lg pwr (nI w) q = some (sp', upd iF w r, tl', loc', rest', spots', sums', c', upd mk w (fl r)) ∧ (∀ t, t ≠ 1 → tl' t = tl t) ∧ tl' 1 = tl 1 + (if r = (-2 : Int32) then 1 else 0) := by
  unfold fX5_mendInner fX7_startOf fl
  rw [nt1E, mksOf_eq hw, ob1E, show nI w * (32 : Int32) = nI (w * 32) from pk_mul w 32, hh, ob7E]
  simp only [jkE, nmE]
  by_cases q1 : r = (-2 : Int32)
  · simp only [if_pos q1]
    rw [og_t (show ixb 1 8 = true from rfl), og_t (show ixb 1 8 = true from rfl), setM_eq hw, ob1E, if_neg (nI_pos (by omega)), if_neg (show ¬ (640 : Int32) ≤ nI w from nI_ge (b := 640) hw (by omega)), og_nI hw (by omega), nI_clamp (by omega)]
    exact ⟨_, rfl, fun t ht => pk_un ht, pk_us ..⟩
  · simp only [if_neg q1]
    rw [setM_eq hw, ob1E, if_neg (nI_pos (by omega)), if_neg (show ¬ (640 : Int32) ≤ nI w from nI_ge (b := 640) hw (by omega)), og_nI hw (by omega), nI_clamp (by omega)]
    exact ⟨_, rfl, fun t _ => rfl, (Int32.add_zero _).symm⟩
theorem rdI {n f w i : Nat} {st : Nat → Nat} {sz pr len mpr msf : Int32} {pk bi fat mby im inn : Nat → Int32} (hD : ID n sz pr pk len mpr msf bi) (hf : f ≤ 640) (hw : w < f) (hi : i < 32) (hst : ∀ j, j < f → fat j = nI (st j) ∧ st j < 360000) (hmb : ∀ x, x < 16384 → mby x = rdF x) :
    ∃ im' in', fX10_readInner (nI f) len bi mby fat im inn (nI w) (nI i) = some (im', in') ∧ im' (32 * w + i) = b01 (IM (pb pk) st f w i) ∧ in' (32 * w + i) = nI (IW (pb pk) st f w i) ∧ ∀ p, p ≠ 32 * w + i → im' p = im p ∧ in' p = inn p := by
  unfold fX10_readInner
  simp only [jkE, nmE]
  have hmod : (nI i - nI i / (2 : Int32) * (2 : Int32) = 0) ↔ i % 2 = 0 := by
    rw [show nI i / (2 : Int32) = nI (i / 2) from pk_div (d := 2) (by omega) (by omega) (by omega), show nI (i / 2) * (2 : Int32) = nI (i / 2 * 2) from pk_mul _ 2, pk_sub (by omega), show (0 : Int32) = nI 0 from rfl, nI_eq (by omega) (by omega)]
    omega
  have hix : (32 : Int32) * nI w + nI i = nI (32 * w + i) := by rw [show (32 : Int32) * nI w = nI (32 * w) from pk_mul 32 w, nI_add]
  -- a frame that is there
  have there : ∀ g : Nat, g < f → IM (pb pk) st f w i = fm (pb pk) (st g) i → IW (pb pk) st f w i = fb (pb pk) (st g) i → ∃ im' in', (og (ixb (nI (32 * w + i)) 20480) (og (ixb (nI (32 * w + i)) 20480) (if nI g < nI f then og (ixb (nI g) 640) (ob1 (fX10_taken len bi (((fat (Int32.toNatClampNeg (nI g))) + (27 : Int32)) + ((17 : Int32) * (nI i + (1 : Int32)))) 14) fun r_10 => og (ixb r_10 16384) (if 0 ≤ mby (Int32.toNatClampNeg r_10) then og (ixb (nI (32 * w + i)) 20480) (if 0 ≤ mby (Int32.toNatClampNeg r_10) then nt1 (fX10_isTurned (nI i)) fun r_20 => if r_20 = 0 then og (ixb (nI (32 * w + i)) 20480) (some (upd (upd im (Int32.toNatClampNeg (nI (32 * w + i))) (vp_nar .boolean 1)) (Int32.toNatClampNeg (nI (32 * w + i))) (vp_nar .boolean 0), upd (upd inn (Int32.toNatClampNeg (nI (32 * w + i))) 0) (Int32.toNatClampNeg (nI (32 * w + i))) (mby (Int32.toNatClampNeg r_10)))) else og (ixb (nI (32 * w + i)) 20480) (some (upd (upd im (Int32.toNatClampNeg (nI (32 * w + i))) (vp_nar .boolean 1)) (Int32.toNatClampNeg (nI (32 * w + i))) (vp_nar .boolean 0), upd (upd inn (Int32.toNatClampNeg (nI (32 * w + i))) 0) (Int32.toNatClampNeg (nI (32 * w + i))) ((255 : Int32) - mby (Int32.toNatClampNeg r_10)))) else nt1 (fX10_isTurned (nI i)) fun r_20 => if r_20 = 0 then og (ixb (nI (32 * w + i)) 20480) (some (upd (upd im (Int32.toNatClampNeg (nI (32 * w + i))) (vp_nar .boolean 1)) (Int32.toNatClampNeg (nI (32 * w + i))) (vp_nar .boolean 0), upd (upd inn (Int32.toNatClampNeg (nI (32 * w + i))) 0) (Int32.toNatClampNeg (nI (32 * w + i))) 0)) else og (ixb (nI (32 * w + i)) 20480) (some (upd (upd im (Int32.toNatClampNeg (nI (32 * w + i))) (vp_nar .boolean 1)) (Int32.toNatClampNeg (nI (32 * w + i))) (vp_nar .boolean 0), upd (upd inn (Int32.toNatClampNeg (nI (32 * w + i))) 0) (Int32.toNatClampNeg (nI (32 * w + i))) ((255 : Int32) - 0)))) else og (ixb (nI (32 * w + i)) 20480) (if 0 ≤ mby (Int32.toNatClampNeg r_10) then nt1 (fX10_isTurned (nI i)) fun r_20 => if r_20 = 0 then og (ixb (nI (32 * w + i)) 20480) (some (upd (upd im (Int32.toNatClampNeg (nI (32 * w + i))) (vp_nar .boolean 1)) (Int32.toNatClampNeg (nI (32 * w + i))) (vp_nar .boolean 1), upd (upd inn (Int32.toNatClampNeg (nI (32 * w + i))) 0) (Int32.toNatClampNeg (nI (32 * w + i))) (mby (Int32.toNatClampNeg r_10)))) else og (ixb (nI (32 * w + i)) 20480) (some (upd (upd im (Int32.toNatClampNeg (nI (32 * w + i))) (vp_nar .boolean 1)) (Int32.toNatClampNeg (nI (32 * w + i))) (vp_nar .boolean 1), upd (upd inn (Int32.toNatClampNeg (nI (32 * w + i))) 0) (Int32.toNatClampNeg (nI (32 * w + i))) ((255 : Int32) - mby (Int32.toNatClampNeg r_10)))) else nt1 (fX10_isTurned (nI i)) fun r_20 => if r_20 = 0 then og (ixb (nI (32 * w + i)) 20480) (some (upd (upd im (Int32.toNatClampNeg (nI (32 * w + i))) (vp_nar .boolean 1)) (Int32.toNatClampNeg (nI (32 * w + i))) (vp_nar .boolean 1), upd (upd inn (Int32.toNatClampNeg (nI (32 * w + i))) 0) (Int32.toNatClampNeg (nI (32 * w + i))) 0)) else og (ixb (nI (32 * w + i)) 20480) (some (upd (upd im (Int32.toNatClampNeg (nI (32 * w + i))) (vp_nar .boolean 1)) (Int32.toNatClampNeg (nI (32 * w + i))) (vp_nar .boolean 1), upd (upd inn (Int32.toNatClampNeg (nI (32 * w + i))) 0) (Int32.toNatClampNeg (nI (32 * w + i))) ((255 : Int32) - 0)))))) else some (upd im (Int32.toNatClampNeg (nI (32 * w + i))) (vp_nar .boolean 1), upd inn (Int32.toNatClampNeg (nI (32 * w + i))) 0)))) = some (im', in') ∧ im' (32 * w + i) = b01 (IM (pb pk) st f w i) ∧ in' (32 * w + i) = nI (IW (pb pk) st f w i) ∧ ∀ p, p ≠ 32 * w + i → im' p = im p ∧ in' p = inn p := fun g hg e1 e2 => by
    obtain ⟨s1, s2⟩ := hst g hg
    have ht : fX10_taken len bi (nI (st g + 44 + 17 * i)) 14 = some (nI (fw (pb pk) (st g) i)) := taken_eq hD (i := st g + 44 + 17 * i) (m := 14) (by omega) (by omega)
    have hfl := fw_lt (pb pk) (st g) i
    rw [og_nI (by omega) (by omega), og_nI (by omega) (by omega), if_pos (nI_lt hg (by omega)), og_nI (by omega) (by omega), nI_clamp (n := g) (by omega), s1, nI_1, show (17 : Int32) * nI (i + 1) = nI (17 * (i + 1)) from pk_mul 17 _, show nI (st g) + (27 : Int32) = nI (st g + 27) from nI_add _ 27, nI_add, show st g + 27 + 17 * (i + 1) = st g + 44 + 17 * i from by omega, ht, ob1E, og_nI hfl (by omega), nI_clamp (n := fw (pb pk) (st g) i) (by omega), hmb _ hfl, nI_clamp (by omega), trR i hi, e1, e2]
    simp only [nt1E]
    have fin : ∀ (b : Bool) (x y : Int32), x = b01 b → (∃ im' in', og (ixb (nI (32 * w + i)) 20480) (some (upd (upd im (32 * w + i) (vp_nar .boolean 1)) (32 * w + i) x, upd (upd inn (32 * w + i) 0) (32 * w + i) y)) = some (im', in') ∧ im' (32 * w + i) = b01 b ∧ in' (32 * w + i) = y ∧ ∀ p, p ≠ 32 * w + i → im' p = im p ∧ in' p = inn p) := fun b x y hx => by
      rw [og_nI (by omega) (by omega)]
      exact ⟨_, _, rfl, by rw [pk_us]; exact hx, pk_us .., fun p hp => by rw [pk_un hp, pk_un hp, pk_un hp, pk_un hp]; exact ⟨rfl, rfl⟩⟩
    cases hfm : fm (pb pk) (st g) i with
    | true =>
      have hr : rdF (fw (pb pk) (st g) i) = -1 := of_decide_eq_true hfm
      have hb0 : fbr (pb pk) (st g) i = 0 := by unfold fbr; rw [hfm]; rfl
      rw [hr, if_neg (by decide), if_neg (by decide), og_nI (by omega) (by omega)]
      unfold fb
      rw [hb0]
      cases trn i with
      | false =>
        rw [if_pos (show b01 false = (0 : Int32) from rfl)]
        exact fin true _ 0 rfl
      | true =>
        rw [if_neg (show ¬ b01 true = (0 : Int32) from by decide)]
        exact fin true _ _ rfl
    | false =>
      obtain ⟨hr, hl⟩ := fbr_eq hfm
      rw [hr, if_pos (nI_pos' (by omega)), if_pos (nI_pos' (by omega)), og_nI (by omega) (by omega)]
      unfold fb
      cases trn i with
      | false =>
        rw [if_pos (show b01 false = (0 : Int32) from rfl)]
        exact fin false _ _ rfl
      | true =>
        rw [if_neg (show ¬ b01 true = (0 : Int32) from by decide), show (255 : Int32) - nI (fbr (pb pk) (st g) i) = nI (255 - fbr (pb pk) (st g) i) from pk_sub (a := 255) (by omega)]
        exact fin false _ _ rfl
  rw [hix, show nI w + (1 : Int32) = nI (w + 1) from nI_1 w]
  by_cases q : i % 2 = 0
  · rw [if_pos (hmod.mpr q)]
    by_cases hl : w + 1 < f
    · exact there (w + 1) hl (by unfold IM; rw [if_pos q, if_pos hl]) (by unfold IW; rw [if_pos q, if_pos hl])
    · rw [og_nI (by omega) (by omega), og_nI (by omega) (by omega), if_neg (nI_nlt (by omega) (by omega)), nI_clamp (by omega)]
      refine ⟨_, _, rfl, ?_, ?_, fun p hp => ?_⟩
      · rw [pk_us]; unfold IM; rw [if_pos q, if_neg hl]; rfl
      · rw [pk_us]; unfold IW; rw [if_pos q, if_neg hl]; rfl
      · rw [pk_un hp, pk_un hp]; exact ⟨rfl, rfl⟩
  · rw [if_neg (fun z => q (hmod.mp z))]
    exact there w hw (by unfold IM; rw [if_neg q]) (by unfold IW; rw [if_neg q])
