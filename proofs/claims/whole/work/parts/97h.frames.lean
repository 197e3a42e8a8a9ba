/-! ===== press: frame by frame ===== -/
def ST (n : Nat) (gap lv : Int32) (re : Int64) (su sz : Int32) (pk : Nat → Int32) (len mlv msu ta ze : Int32) (bi : Nat → Int32) : Prop := ∃ P : Nat → Bool, CS n P gap lv re su sz pk ∧ RS n P len mlv msu ta ze bi ∧ zr P n ≤ 8
theorem zr_tz {Q : Nat → Bool} {V N m z : Nat} (hz : z < m) (hQ : ∀ t, t < m → Q (N + t) = V.testBit (m - 1 - t)) (h0 : ∀ t, t < z → V.testBit t = false) (h1 : V.testBit z = true) : zr Q (N + m) = z := by
  have e1 : Q (N + (m - 1 - z)) = true := by rw [hQ _ (by omega), show m - 1 - (m - 1 - z) = z from by omega]; exact h1
  have e2 := zr_run Q (N + (m - z)) z (fun t ht => by
    rw [show N + (m - z) + t = N + (m - z + t) from by omega, hQ _ (by omega)]; exact h0 _ (by omega))
  rw [show N + (m - z) + z = N + m from by omega, show N + (m - z) = N + (m - 1 - z) + 1 from by omega, zr_t e1] at e2
  rw [e2, Nat.zero_add]
theorem joinE {n V m : Nat} {gap lv : Int32} {re : Int64} {su sz : Int32} {pk : Nat → Int32} {len mlv msu ta ze : Int32} {bi : Nat → Int32} (ma mo st : Int32) (hW : okW V m) (hn : n + (m + 3) ≤ 360000) (hS : ST n gap lv re su sz pk len mlv msu ta ze bi) :
    ∃ (g' l' : Int32) (r' : Int64) (s' z' : Int32) (p' : Nat → Int32) (len' lv' ma' mo' su' st' ta' ze' : Int32) (bi' : Nat → Int32), fX6_carveJoined gap lv re su sz pk (nI V) (nI m) = some (g', l', r', s', z', p') ∧ fX10_layWord len mlv ma mo msu st ta ze bi (nI V) (nI m) = some (len', lv', ma', mo', su', st', ta', ze', bi') ∧ ST (n + (m + 3)) g' l' r' s' z' p' len' lv' su' ta' ze' bi' := by
  obtain ⟨P, hC, hR, hg⟩ := hS
  obtain ⟨hm, hV, ⟨a, ha1, ha2, ha3, ha4⟩, ⟨z, hz1, hz2, hz3, hz4⟩⟩ := hW
  have hex : ∃ k, k < 4 ∧ mayK (zr P n) k a = true := by
    have := may_ex (zr P n) (by omega) a (by omega)
    cases h0 : mayK (zr P n) 0 a with
    | true => exact ⟨0, by omega, h0⟩
    | false =>
      cases h1 : mayK (zr P n) 1 a with
      | true => exact ⟨1, by omega, h1⟩
      | false =>
        cases h2 : mayK (zr P n) 2 a with
        | true => exact ⟨2, by omega, h2⟩
        | false =>
          rw [h0, h1, h2] at this
          exact ⟨3, by omega, this⟩
  obtain ⟨q, ma', mo', st', hq, c1, c2⟩ := choL hm hV hn ha2 ha1 ha3 ha4 hC hR hex FU 0 1 360001 0 0 0 (-1) ma mo st (by omega) (by rw [FU_eq]; omega) (Or.inl ⟨rfl, rfl, rfl, rfl, rfl, rfl, fun k' hk' => by omega⟩)
  have c1' : fX6_chooseJoint_L19 gap (nI a) (nI m) (nI V) su lv re FU 0 1 360001 0 = _ := c1
  have c2' : fX10_jointFor mlv ma mo msu st ta ze (nI V) (nI m) = _ := c2
  have hza : fX6_zerosAhead (nI V) (nI m) = some (nI a) := zaE (by omega) ha2 ha3 ha4 FU 0 (by omega) (by rw [FU_eq]; omega)
  have hC' := hC.congr (Q := Qk P n V m q) (fun i hi => Q_lo P hi)
  have hR' := hR.congr (Q := Qk P n V m q) (fun i hi => Q_lo P hi)
  obtain ⟨g', l', r', s', z', p', d1, d2⟩ := carE (V := Wk V m q) (n := n) (m := m + 3) (by omega) (by omega) (Wk_lt hV hq) hn (fun t ht => Q_at P ht) hC'
  obtain ⟨len1, lv1, su1, ta1, ze1, bi1, e1, e2⟩ := layE (V := jN q) (n := n) (m := 3) (by omega) (by omega) (by omega) (fun t ht => by
    rw [Q_j P hV hq ht, ← jN_bit q hq t ht]) hR'
  obtain ⟨len2, lv2, su2, ta2, ze2, bi2, f1, f2⟩ := layE (V := V) (n := n + 3) (m := m) (by omega) (by omega) (by omega) (fun t ht => by
    rw [show n + 3 + t = n + (3 + t) from by omega, Q_v P hV ht]) e2
  have e1' : fX10_layBits len mlv msu ta ze bi (nI (jN q)) 3 = _ := e1
  refine ⟨g', l', r', s', z', p', len2, lv2, ma', mo', su2, st', ta2, ze2, bi2, ?_, ?_, Qk P n V m q, d2, ?_, ?_⟩
  · unfold fX6_carveJoined fX6_chooseJoint
    rw [hza, ob1E, c1', ob1E, x9E (by omega) hV, show nI m + (3 : Int32) = nI (m + 3) from nI_add m 3, d1, ob6E]
  · unfold fX10_layWord
    rw [c2', ob4E, e1', ob6E, f1, ob6E]
  · rw [show n + (m + 3) = n + 3 + m from by omega]; exact f2
  · have := zr_tz (Q := Qk P n V m q) (V := V) (N := n + 3) hz2 (fun t ht => by rw [show n + 3 + t = n + (3 + t) from by omega, Q_v P hV ht]) hz3 hz4
    rw [show n + (m + 3) = n + 3 + m from by omega, this]; exact hz1
theorem wrdL {jc : Int64 → Int32 → Int32 → Int32 → Int32 → (Nat → Int32) → Option (Int32 × Int32 × Int64 × Int32 × Int32 × (Nat → Int32) × (Nat → Int32))} {jr : Int32 → Int32 → Int32 → Int32 → Int32 → Int32 → Int32 → Int32 → (Nat → Int32) → Option (Int32 × Int32 × Int32 × Int32 × Int32 × Int32 × Int32 × Int32 × Int32 × Int32 × Int32 × Int32 × Int32 × (Nat → Int32) × (Nat → Int32) × (Nat → Int32) × (Nat → Int32) × (Nat → Int32) × (Nat → Int32) × (Nat → Int32) × (Nat → Int32) × (Nat → Int32) × (Nat → Int32))} {c inn mw sm' : Nat → Int32} {D fr f n : Nat} (hfr : fr ≤ 640) (hf : f < fr) (hc : RW c (frB sm' D f) f) (hi : ∀ j, j < fr → ∀ i, i < 32 → inn (32 * j + i) = nI (iV sm' D j i)) (hw : ∀ j, j < 256 → mw j = wordsF j) (hn : n + 17 * 32 ≤ 360000) : ∀ (F i : Nat) (gap lv : Int32) (re : Int64) (su sz : Int32) (pk : Nat → Int32) (len mlv msu ta ze : Int32) (bi : Nat → Int32) (ma mo st : Int32), i ≤ 32 → 32 - i < F → ST (n + 17 * i) gap lv re su sz pk len mlv msu ta ze bi →
    ∃ (gap' lv' : Int32) (re' : Int64) (su' sz' : Int32) (pk' : Nat → Int32) (len' mlv' msu' ta' ze' : Int32) (bi' : Nat → Int32) (ma' mo' st' : Int32), fX6_cut_L81 jc c (nI f) F (nI i) re gap su lv sz pk = jc re' gap' su' lv' sz' pk' ∧ fX10_press_L147 jr inn (nI f) mw F (nI i) len ze mlv msu ta ma mo st bi = jr len' ze' mlv' msu' ta' ma' mo' st' bi' ∧ ST (n + 17 * 32) gap' lv' re' su' sz' pk' len' mlv' msu' ta' ze' bi' := by
  intro F
  induction F with
  | zero => intro i _ _ _ _ _ _ _ _ _ _ _ _ _ _ _ _ h; omega
  | succ F ih =>
    intro i gap lv re su sz pk len mlv msu ta ze bi ma mo st hi32 hF hS
    rw [fX6_cut_L81.eq_2, fX10_press_L147.eq_2]
    by_cases h1 : 32 ≤ i
    · rw [if_pos (show (32 : Int32) ≤ nI i from nI_le (a := 32) h1 (by omega)), if_pos (show (32 : Int32) ≤ nI i from nI_le (a := 32) h1 (by omega))]
      have e : i = 32 := by omega
      rw [e] at hS
      exact ⟨gap, lv, re, su, sz, pk, len, mlv, msu, ta, ze, bi, ma, mo, st, rfl, rfl, hS⟩
    · have hfl := frB_lt sm' D f i
      have hv := trn_v (i := i) hfl
      have ev : (if fX7_isTurned (nI i) = 0 then nI (frB sm' D f i) else (255 : Int32) - nI (frB sm' D f i)) = nI (if trn i then 255 - frB sm' D f i else frB sm' D f i) := by
        rw [trC i (by omega)]
        cases trn i
        · rw [if_pos (show b01 false = (0 : Int32) from rfl)]; rfl
        · rw [if_neg (show ¬ b01 true = (0 : Int32) from by decide), show (255 : Int32) - nI (frB sm' D f i) = nI (255 - frB sm' D f i) from pk_sub (a := 255) (by omega)]; rfl
      obtain ⟨g', l', r', s', z', p', len', lv', ma', mo', su', st', ta', ze', bi', j1, j2, j3⟩ := joinE (n := n + 17 * i) (V := wN (if trn i then 255 - frB sm' D f i else frB sm' D f i)) (m := 14) ma mo st (okW_of (Or.inl rfl) (okW_w _ hv)) (by omega) hS
      have j1' : fX6_carveJoined gap lv re su sz pk (nI (wN (if trn i then 255 - frB sm' D f i else frB sm' D f i))) 14 = _ := j1
      have j2' : fX10_layWord len mlv ma mo msu st ta ze bi (nI (wN (if trn i then 255 - frB sm' D f i else frB sm' D f i))) 14 = _ := j2
      rw [if_neg (show ¬ (32 : Int32) ≤ nI i from nI_ge (b := 32) (by omega) (by omega)), if_neg (show ¬ (32 : Int32) ≤ nI i from nI_ge (b := 32) (by omega) (by omega)), get_eq (by omega) (by omega), ob1E, nt1E, hc i (by omega), jk_ite, ev, wordOf_eq hv, ob1E, j1', ob6E, nmE, dby hfr hf (by omega) hi, ob1E, og_nI hv (by omega), nI_clamp (by omega), mwE hw hv, j2', ob9E, nmE, nI_1]
      refine ih (i + 1) g' l' r' s' z' p' len' lv' su' ta' ze' bi' ma' mo' st' (by omega) (by omega) ?_
      rw [show n + 17 * (i + 1) = n + 17 * i + (14 + 3) from by omega]
      exact j3
theorem cutL {jc : Int64 → Int32 → Int32 → Int32 → Int32 → (Nat → Int32) → (Nat → Int32) → Option (Int32 × Int32 × Int64 × Int32 × Int32 × (Nat → Int32) × (Nat → Int32))} {jr : Int32 → Int32 → Int32 → Int32 → Int32 → Int32 → Int32 → Int32 → (Nat → Int32) → (Nat → Int32) → Option (Int32 × Int32 × Int32 × Int32 × Int32 × Int32 × Int32 × Int32 × Int32 × Int32 × Int32 × Int32 × Int32 × (Nat → Int32) × (Nat → Int32) × (Nat → Int32) × (Nat → Int32) × (Nat → Int32) × (Nat → Int32) × (Nat → Int32) × (Nat → Int32) × (Nat → Int32) × (Nat → Int32))} {c inn mw sm' : Nat → Int32} {ents me : Int32} {sc ct tr ix msc mct mtr mix : Nat → Int32} {r : Nat → Int32} {T I C : Nat → Nat} {D fr S b : Nat} (hcon : ConF ents sc ct tr ix me msc mct mtr mix r T I C) (hw : ∀ j, j < 256 → mw j = wordsF j) (hS : S = (fr + 97) / 98) (hfr : fr ≤ 599) (hb : b ≤ 400000) (hc : ∀ f, f < fr → RW c (frB sm' D f) f) (hi : ∀ j, j < fr → ∀ i, i < 32 → inn (32 * j + i) = nI (iV sm' D j i)) :
    ∀ (F f : Nat) (gap0 lv0 : Int32) (re0 : Int64) (su0 sz0 : Int32) (pk0 : Nat → Int32) (gap lv : Int32) (re : Int64) (su sz : Int32) (pk : Nat → Int32) (len mlv msu ta ze : Int32) (bi : Nat → Int32) (ma mo st : Int32) (o ch : Nat → Int32), f < fr → fr - f < F → (∀ (β : Type) (j : Int64 → Int32 → Int32 → Int32 → Int32 → (Nat → Int32) → Option β), (if nI f = 0 then ob6 (fX6_carve gap0 lv0 re0 su0 sz0 pk0 8392706 24) fun g l r s z p => j r g s l z p else ob6 (fX6_carveJoined gap0 lv0 re0 su0 sz0 pk0 8392706 24) fun g l r s z p => j r g s l z p) = j re gap su lv sz pk) → ST (588 * f + 24) gap lv re su sz pk len mlv msu ta ze bi → (f % 98 = 0 ∨ LB o ch) →
    ∃ (gap' lv' : Int32) (re' : Int64) (su' sz' : Int32) (pk' : Nat → Int32) (len' mlv' msu' ta' ze' : Int32) (bi' : Nat → Int32) (ma' mo' st' : Int32) (o' ch' : Nat → Int32), fX6_cut_L16 (nI fr) jc ents ix sc c (nI b) ct tr (nI S) F (nI f) re0 gap0 su0 lv0 sz0 pk0 o = jc re' gap' su' lv' sz' pk' o' ∧ fX10_press_L126 (nI fr) jr (nI b) me mct mix msc mtr mw inn F (nI f) len ze mlv msu ta ma mo st bi ch = jr len' ze' mlv' msu' ta' ma' mo' st' bi' ch' ∧ ST (588 * fr - 3) gap' lv' re' su' sz' pk' len' mlv' msu' ta' ze' bi' := by
  intro F
  induction F with
  | zero => intro f _ _ _ _ _ _ _ _ _ _ _ _ _ _ _ _ _ _ _ _ _ _ _ _ h; omega
  | succ F ih =>
    intro f gap0 lv0 re0 su0 sz0 pk0 gap lv re su sz pk len mlv msu ta ze bi ma mo st o ch hf hF hsg hST hl
    obtain ⟨o1, ch1, V, v1, v2, v3, v4, v5⟩ := besE hcon hw hS hfr hf hb hl
    obtain ⟨g1, l1, r1, s1, z1, p1, len1, lv1, ma1, mo1, su1, st1, ta1, ze1, bi1, j1, j2, j3⟩ := joinE ma mo st v1 (by omega) hST
    have j1' : fX6_carveJoined gap lv re su sz pk (nI V) 14 = _ := j1
    have j2' : fX10_layWord len mlv ma mo msu st ta ze bi (nI V) 14 = _ := j2
    have hwl := fun jc' jr' => wrdL (jc := jc') (jr := jr') (c := c) (inn := inn) (mw := mw) (sm' := sm') (D := D) (fr := fr) (f := f) (n := 588 * f + 24 + (14 + 3)) (by omega) hf (hc f hf) hi hw (by omega) FU 0 g1 l1 r1 s1 z1 p1 len1 lv1 su1 ta1 ze1 bi1 ma1 mo1 st1 (by omega) (by rw [FU_eq]; omega) j3
    rw [fX6_cut_L16.eq_2, fX10_press_L126.eq_2, if_neg (nI_ge (by omega) (by omega)), if_neg (nI_ge (by omega) (by omega)), jkE, hsg, jkE, v2, v3, ob1E, j1', ob6E, jkE, v4, ob2E, j2', ob9E, jkE]
    obtain ⟨g2, l2, r2, s2, z2, p2, len2, lv2, su2, ta2, ze2, bi2, ma2, mo2, st2, w1, w2, w3⟩ := hwl _ _
    have w1' : fX6_cut_L81 _ c (nI f) FU 0 r1 g1 s1 l1 z1 p1 = _ := w1
    have w2' : fX10_press_L147 _ inn (nI f) mw FU 0 len1 ze1 lv1 su1 ta1 ma1 mo1 st1 bi1 = _ := w2
    rw [w1', w2', nmE, nI_1, jkE]
    have hN : 588 * f + 24 + (14 + 3) + 17 * 32 = 588 * f + 585 := by omega
    rw [hN] at w3
    by_cases hlast : f + 1 = fr
    · rw [if_pos (nI_le (by omega) (by omega))]
      cases F with
      | zero => omega
      | succ F =>
        simp only [nmE]
        rw [fX6_cut_L16.eq_2, fX10_press_L126.eq_2, if_pos (nI_le (by omega) (by omega)), if_pos (nI_le (by omega) (by omega))]
        refine ⟨g2, l2, r2, s2, z2, p2, len2, lv2, su2, ta2, ze2, bi2, ma2, mo2, st2, o1, ch1, rfl, rfl, ?_⟩
        rw [show 588 * fr - 3 = 588 * f + 585 from by omega]; exact w3
    · obtain ⟨g3, l3, r3, s3, z3, p3, len3, lv3, ma3, mo3, su3, st3, ta3, ze3, bi3, k1, k2, k3⟩ := joinE (m := 24) ma2 mo2 st2 okW_s (by omega) w3
      have k1' : fX6_carveJoined g2 l2 r2 s2 z2 p2 8392706 24 = _ := k1
      have k2' : fX10_layWord len2 lv2 ma2 mo2 su2 st2 ta2 ze2 bi2 8392706 24 = _ := k2
      rw [if_neg (nI_ge (by omega) (by omega)), k2', ob9E]
      simp only [nmE]
      refine ih (f + 1) g2 l2 r2 s2 z2 p2 g3 l3 r3 s3 z3 p3 len3 lv3 su3 ta3 ze3 bi3 ma3 mo3 st3 o1 ch1 (by omega) (by omega) (fun β j => ?_) ?_ (Or.inr v5)
      · rw [if_neg (nI_ne0 (by omega) (by omega)), k1', ob6E]
      · rw [show 588 * (f + 1) + 24 = 588 * f + 585 + (24 + 3) from by omega]; exact k3
