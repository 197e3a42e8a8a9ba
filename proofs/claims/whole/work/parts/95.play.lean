/-! ===== play ===== -/
/-- what a play leaves on both sides -/
def PQ (mpr msf : Int32) (x : Option (Int32 × Int32 × Int32 × Int32 × (Nat → Int32) × Int32 × (Nat → Int32) × Int32 × (Nat → Int32) × (Nat → Int32) × (Nat → Int32) × (Nat → Int32) × (Nat → Int32) × (Nat → Int32) × (Nat → Int32) × (Nat → Int32) × (Nat → Int32) × (Nat → Int32) × (Nat → Int32) × (Nat → Int32) × (Nat → Int32) × (Nat → Int32))) (y : Option (Int32 × Int32 × Int32 × Int32 × Int32 × Int32 × Int32 × Int32 × Int32 × (Nat → Int32) × (Nat → Int32) × (Nat → Int32) × (Nat → Int32) × (Nat → Int32) × (Nat → Int32) × (Nat → Int32) × (Nat → Int32) × (Nat → Int32) × (Nat → Int32) × (Nat → Int32) × (Nat → Int32) × (Nat → Int32) × (Nat → Int32) × (Nat → Int32) × (Nat → Int32))) : Prop :=
  ∃ (rr : Int32) (fo sf : Int32) (bes iF oF smp sta tal lo re so su' lo2 re2 so2 su2 cells marks : Nat → Int32) (is os : Int32) (mfo mif mmo mof mst mun : Int32) (mbe mfa mgo mim mit min mmk mom mot mou mpl mrw msu msy mva mwo : Nat → Int32),
    x = some (rr, 1, fo, sf, bes, is, iF, os, oF, smp, sta, tal, lo, re, so, su', lo2, re2, so2, su2, cells, marks) ∧ y = some (rr, mfo, mif, 1, mmo, mof, mst, 0, mun, mbe, mfa, mgo, mim, mit, min, mmk, mom, mot, mou, mpl, mrw, msu, msy, mva, mwo) ∧
    IP 1 fo sf cells marks bes iF oF smp tal mpr msf 1 mfo mst mif mof mmo mun mbe mit mot mgo msu
theorem L30c {Q : Option (Int32 × Int32 × Int32 × Int32 × (Nat → Int32) × Int32 × (Nat → Int32) × Int32 × (Nat → Int32) × (Nat → Int32) × (Nat → Int32) × (Nat → Int32) × (Nat → Int32) × (Nat → Int32) × (Nat → Int32) × (Nat → Int32) × (Nat → Int32) × (Nat → Int32) × (Nat → Int32) × (Nat → Int32) × (Nat → Int32) × (Nat → Int32)) → Prop} {jj : (Nat → Int32) → (Nat → Int32) → (Nat → Int32) → (Nat → Int32) → Option (Int32 × Int32 × Int32 × Int32 × (Nat → Int32) × Int32 × (Nat → Int32) × Int32 × (Nat → Int32) × (Nat → Int32) × (Nat → Int32) × (Nat → Int32) × (Nat → Int32) × (Nat → Int32) × (Nat → Int32) × (Nat → Int32) × (Nat → Int32) × (Nat → Int32) × (Nat → Int32) × (Nat → Int32) × (Nat → Int32) × (Nat → Int32))} {pk sta kn' sq : Nat → Int32} {f : Nat} {st : Nat → Nat} {be tl c mk : Nat → Int32} (hf : f ≤ 640) (hst : ∀ j, j < f → sta j = nI (st j) ∧ st j < 360000) (hby : ∀ x, x < 16384 → fX8_byteOf kn' sq (nI x) = some (rdF x)) (hz : tl 0 = 0) (h : ∀ be' tl' c' mk' : Nat → Int32, (∀ j, j < f → be' j = nI (tkN (pb pk) (st j + 27) 14) ∧ RD (pb pk) st c' mk' j) → tl' 0 = nI (SC (pb pk) st f) → (∀ t, t ≠ 0 → tl' t = tl t) → Q (jj be' tl' c' mk')) : Q (fX5_perform_L30 (nI f) jj sta pk kn' sq FU 0 be tl c mk) := by
  obtain ⟨be', tl', c', mk', g1, g2, g3, g4⟩ := L30 (jj := jj) (pk := pk) hf hst hby FU 0 be tl c mk (by omega) (by rw [FU_eq]; omega) (fun j hj => by omega) hz
  have g1' : fX5_perform_L30 (nI f) jj sta pk kn' sq FU 0 be tl c mk = _ := g1
  rw [g1']
  exact h be' tl' c' mk' g2 g3 g4
theorem perf {n N wn q1 q2 S : Nat} {sz pr len mpr msf v1 v2 v3 sp1 sp2 vp x1 x2 x3 x4 x5 x6 x7 x8 : Int32} {pk bi kn' sq pwr lg pwr' lg' mby : Nat → Int32} {be iF oF smp sta tl lo re so su lo2 re2 so2 su2 c mk mbe fat go im iT inn mkd om oT ou pl rows ms sy vals wd : Nat → Int32} (hT : TabF pwr lg) (hT' : TabF pwr' lg') (hD : ID n sz pr pk len mpr msf bi) (hN : N ≤ 360000) (hN0 : 0 < N) (e1 : sz = nI N) (e2 : len = nI N) (hS1 : 1 ≤ S) (hS : S ≤ 488) (e3 : vp = nI (S + 111)) (e4 : msf = nI S) (hp0 : ¬ mpr = 0) (hwn : wn ≤ 20) (hq1 : q1 ≤ 2) (hq2 : q2 ≤ 2) (hby : ∀ x, x < 16384 → fX8_byteOf kn' sq (nI x) = some (rdF x)) (hmb : ∀ x, x < 16384 → mby x = rdF x) :
    PQ mpr msf (fX5_perform v1 v2 v3 be vp sz 32 sp1 iF 28 sp2 oF smp sta tl pk lo re so su lo2 re2 so2 su2 c mk kn' sq lg pwr (nI q1) (nI q2) (nI wn)) (fX10_play x1 x2 x3 len x4 x5 mpr x6 msf x7 x8 mbe bi mby fat go im iT inn lg' mkd om oT ou pl pwr' rows ms sy vals wd (nI q1) (nI q2) (nI wn)) := by
  unfold fX5_perform fX10_play
  obtain ⟨t0, a1, a2⟩ := fill_eq (A := 8) (v := 0) tl (by omega)
  obtain ⟨f, st, sta', be', fat', b1, b2, b3, b4, b5⟩ := find_eq (fo1 := v2) (fo2 := x1) sta mbe fat hD hN hN0 e2 hwn
  have i2 := fun (q : Nat) (hq : q ≤ 2) => in_1 (a := Int32.toInt64 (nI q)) (b := 0) (c := 2) (by rw [tl_i, nI_ti (by omega)]; show (0 : Int) ≤ _ ∧ _ ≤ (2 : Int); omega)
  have i20 : fX10_in (Int32.toInt64 (nI wn)) 0 20 = 1 := in_1 (by rw [tl_i, nI_ti (by omega)]; show (0 : Int) ≤ _ ∧ _ ≤ (20 : Int); omega)
  unfold fX3_framesPressed
  rw [a1, ob1E, nt1E, nmE, e3, show nI (S + 111) - (111 : Int32) = nI S from (pk_sub (b := 111) (by omega)).trans (congrArg nI (by omega)), e1, b3, ob2E, if_neg hp0, i2 q1 hq1, nt1E, if_neg ne10, i2 q2 hq2, nt1E, if_neg ne10, i20, nt1E, if_neg ne10, b4, ob3E, jkE, jkE, e4]
  have hst : ∀ j, j < f → fat' j = nI (st j) ∧ st j < 360000 := fun j hj => ⟨(b5 j hj).2.1, by have := (b5 j hj).2.2.2; omega⟩
  have h88 := fun jj => L88 (jj := jj) (st := st) (mby := mby) hD b2 hst hmb FU 0 (by omega) (by rw [FU_eq]; omega)
  have h88' : ∀ jj, fX10_play_L88 (nI f) jj len bi fat' mby FU 0 0 = jj (nI (SC (pb pk) st f)) := h88
  rw [h88']
  refine L30c (Q := fun x => PQ mpr (nI S) x _) b2 (fun j hj => ⟨(b5 j hj).1, by have := (b5 j hj).2.2.2; omega⟩) hby (by rw [a2]; rfl) (fun be2 tl2 c2 mk2 c1 c3 c4 => ?_)
  rw [jkE, jkE]
  obtain ⟨y1, y2, y3, y4, y5, y6, y7, y8, y9, y10, y11, y12, y13, y14, y15, y16, y17, y18, y19, k1, k2, k3, k4, k5⟩ := (fun j1 j2 => L54 (j1 := j1) (j2 := j2) (q := q1) (st := st) hT hT' hD b2 hq1 hst hmb FU 0 sp1 0 iF tl2 lo re so su c2 mk2 im iT inn mkd pl rows sy vals wd (by omega) (by rw [FU_eq]; omega) (fun j hj => by omega) (fun j _ hj => (c1 j hj).2) (by rw [c4 1 (by omega), a2]; rfl)) _ _
  have k1' : fX5_perform_L54 (nI f) _ 32 lg pwr (nI q1) FU 0 sp1 iF tl2 lo re so su c2 mk2 = _ := k1
  have k2' : fX10_play_L166 (nI f) _ len bi mby fat' lg' pwr' (nI q1) FU 0 0 im iT inn mkd pl rows sy vals wd = _ := k2
  rw [k1', k2', jkE, jkE]
  obtain ⟨z1, z2, z3, z4, z5, z6, z7, z8, z9, z10, z11, z12, z13, z14, z15, z16, z17, z18, z19, z20, l1, l2, l3, l4, l5, l6⟩ := (fun j1 j2 => L85 (j1 := j1) (j2 := j2) (q := q2) (iF := y3) (im := y11) (iT := y12) (inn := y13) hT hT' b2 hq2 FU 0 sp2 0 0 oF y4 lo2 re2 so2 su2 y9 y10 om oT ou y14 y15 y16 y17 y18 y19 (by omega) (by rw [FU_eq]; omega) (fun j hj => by omega) (fun j _ hj => k3 j hj) (by rw [k5 2 (by omega), c4 2 (by omega), a2]; rfl) (by rw [k5 5 (by omega), c4 5 (by omega), a2]; rfl)) _ _
  have l1' : fX5_perform_L85 (nI f) _ 28 lg pwr (nI q2) FU 0 sp2 oF y4 lo2 re2 so2 su2 y9 y10 = _ := l1
  have l2' : fX10_play_L191 (nI f) _ y11 y13 lg' pwr' (nI q2) FU 0 0 0 y14 om oT ou y15 y16 y17 y18 y19 = _ := l2
  rw [l1', l2']
  obtain ⟨go', su', m1, m2⟩ := L216 (fa := y2) (mo := z3) (ofa := z2) (stg := nI (SC (pb pk) st f)) (be := be') (fat := fat') (im := y11) (iT := y12) (inn := y13) (mkd := z15) (pl := z16) (rows := z17) (sy := z18) (vals := z19) (wd := z20) b2 hS l3 FU 0 go ms (by omega) (by rw [FU_eq]; omega) (fun k hk => by omega)
  have m1' : fX10_play_L216 (nI S) (nI f) y2 z3 z2 (nI (SC (pb pk) st f)) be' fat' y11 y12 y13 z15 z12 z13 z14 z16 z17 z18 z19 z20 FU 0 0 go ms = _ := m1
  have hz5 : ∀ t, t ≠ 0 → t ≠ 1 → t ≠ 2 → t ≠ 5 → t < 8 → z5 t = 0 := fun t h0 h1 h2 h5 h8 => by
    rw [l6 t h2 h5, k5 t h1, c4 t h0, a2, if_pos h8]
  obtain ⟨tl3, u1, u2, u3⟩ := cntU (z := 0) (mk := z11) b2 hS FU 0 z5 (by omega) (by rw [FU_eq]; omega) (by rw [hz5 3 (by omega) (by omega) (by omega) (by omega) (by omega)]; rfl)
  have u1' : fX5_countUnsure (nI f) (nI S) z5 z11 = some tl3 := u1
  obtain ⟨sm1, tl4, w1, w2, w3, w4, w5⟩ := hidL (side := 0) (z := 0) b2 hS (by omega) (fun i hi => (m2 i hi).1) (fun i hi => (m2 i hi).2) FU 0 smp tl3 (by omega) (by rw [FU_eq]; omega) (by rw [u3 4 (by omega), hz5 4 (by omega) (by omega) (by omega) (by omega) (by omega)]; rfl) (fun k hk => by omega)
  have w1' : fX5_hide (nI f) (nI S) smp tl3 z10 z11 0 = some (sm1, tl4) := w1
  obtain ⟨sm2, tl5, v1', v2', v3', v4', v5'⟩ := hidL (side := 1) (z := 0 + nI (hearF go' su' S 0 (6 * S)).2) b2 hS (by omega) (fun i hi => (m2 i hi).1) (fun i hi => (m2 i hi).2) FU 0 sm1 tl4 (by omega) (by rw [FU_eq]; omega) (by rw [w4]; exact (Int32.add_zero _).symm) (fun k hk => by omega)
  have v1'' : fX5_hide (nI f) (nI S) sm1 tl4 z10 z11 1 = some (sm2, tl5) := v1'
  have hcs : fX5_countSections 1 (nI f) be2 = some (nI (secN be' f f)) := cntS (mbe := be') b2 (fun k hk => by rw [(c1 k hk).1, (b5 k hk).2.2.1]) FU 0 (by omega) (by rw [FU_eq]; omega)
  have e3' : upd (upd tl5 (Int32.toNatClampNeg 6) (nI f)) (Int32.toNatClampNeg 7) (nI (secN be' f f)) (Int32.toNatClampNeg 3) = nI (pop (fun i => !GS z11 f i) (24 * S)) := by
    show upd (upd tl5 6 (nI f)) 7 (nI (secN be' f f)) 3 = _
    rw [pk_un (by omega), pk_un (by omega), v5' 3 (by omega), w5 3 (by omega), u2, Int32.zero_add]
  rw [m1', u1', ob1E, w1', ob2E, v1'', ob2E, og_t (show ixb 6 8 = true from rfl), nmE, hcs, ob1E, og_t (show ixb 7 8 = true from rfl), nmE, og_t (show ixb 3 8 = true from rfl), e3']
  have q0 : ∀ t, t ≠ 3 → t ≠ 4 → tl5 t = z5 t := fun t h3 h4 => by rw [v5' t h4, w5 t h4, u3 t h3]
  refine ⟨_, _, _, _, _, _, _, _, _, _, _, _, _, _, _, _, _, _, _, _, _, _, _, _, _, _, _, _, _, _, _, _, _, _, _, _, _, _, _, _, _, _, _, rfl, rfl, rfl, Or.inr ⟨rfl, f, S, b2, hS1, hS, rfl, rfl, rfl, rfl, fun k hk => ?_, m2, fun k hk => ⟨?_, v2' k hk⟩, ?_, ?_, ?_, ?_, ?_, ?_, ?_, ?_⟩⟩
  · have h14 := tk_lt (pb pk) (st k + 27) 14
    rw [(c1 k hk).1, (b5 k hk).2.2.1, nI_ti (by omega)]
    exact ⟨rfl, by omega, by omega, (k3 k hk).2.1, (l3 k hk).1⟩
  · rw [v3' (2 * k) (by omega)]; exact w2 k hk
  · show upd (upd tl5 6 (nI f)) 7 (nI (secN be' f f)) 0 = _
    rw [pk_un (by omega), pk_un (by omega), q0 0 (by omega) (by omega), l6 0 (by omega) (by omega), k5 0 (by omega), c3]
  · show upd (upd tl5 6 (nI f)) 7 (nI (secN be' f f)) 1 = _
    rw [pk_un (by omega), pk_un (by omega), q0 1 (by omega) (by omega), l6 1 (by omega) (by omega), k4]
  · show upd (upd tl5 6 (nI f)) 7 (nI (secN be' f f)) 2 = _
    rw [pk_un (by omega), pk_un (by omega), q0 2 (by omega) (by omega), l4]
  · exact e3'
  · show upd (upd tl5 6 (nI f)) 7 (nI (secN be' f f)) 4 = _
    rw [pk_un (by omega), pk_un (by omega), v4', Int32.zero_add, nI_add]
  · show upd (upd tl5 6 (nI f)) 7 (nI (secN be' f f)) 5 = _
    rw [pk_un (by omega), pk_un (by omega), q0 5 (by omega) (by omega), l5]
  · show upd (upd tl5 6 (nI f)) 7 (nI (secN be' f f)) 6 = _
    rw [pk_un (by omega), pk_us]
  · show upd (upd tl5 6 (nI f)) 7 (nI (secN be' f f)) 7 = _
    rw [pk_us]
theorem op_play : OP21 Inv := by
  intro n xi xa xl mi ma y0 y1 y2 hn h
  obtain ⟨hC, hS, hE, hB, hD, hP⟩ := id h
  obtain ⟨c4, c5, c7, c8, cT, cb, cw, cm, cR⟩ := id hC
  have hpr : xi 11 = mi 5 := hD.2.1
  obtain ⟨N, hN, e1, e2⟩ := ID_sz hD
  have a2 : (2 : Int32).toInt = 2 := by decide
  have a20 : (20 : Int32).toInt = 20 := by decide
  have a0 : (0 : Int32).toInt = 0 := by decide
  by_cases hg : (¬ xi 11 = 0) ∧ (0 ≤ y0.toInt ∧ y0.toInt ≤ 2) ∧ (0 ≤ y1.toInt ∧ y1.toInt ≤ 2) ∧ (0 ≤ y2.toInt ∧ y2.toInt ≤ 20)
  · obtain ⟨g1, g2, g3, g4⟩ := hg
    obtain ⟨q1, hq1, rfl⟩ := i_of g2.1
    obtain ⟨q2, hq2, rfl⟩ := i_of g3.1
    obtain ⟨wn, hwn, rfl⟩ := i_of g4.1
    have b1 := nI_ti hq1
    have b2 := nI_ti hq2
    have b3 := nI_ti hwn
    have reach : ∀ q : Nat, q ≤ 2 → fX9_isReach (nI q) = 1 := fun q hq => by
      unfold fX9_isReach
      rw [if_neg (nI_pos (by omega)), if_neg (show ¬ (2 : Int32) < nI q from nI_nlt (a := 2) (by omega) (by omega))]
    obtain ⟨S, hS1, hS2, e3, e4, hN0⟩ : ∃ S : Nat, 1 ≤ S ∧ S ≤ 488 ∧ xi 11 = nI (S + 111) ∧ mi 6 = nI S ∧ 0 < N := by
      rcases hD.2.2.1 with ⟨z, _⟩ | ⟨sf, N', s1, s2, s3, s4, s5, s6, s7⟩
      · exact absurd z g1
      · have hNN : N = N' := (nI_eq (by omega) (by omega)).mp (by rw [← e1]; exact s5)
        exact ⟨sf, s1, s2, s4, s3, by omega⟩
    obtain ⟨rr, fo, sf, bes, iF, oF, smp, sta, tal, lo, re, so, su', lo2, re2, so2, su2, cells, marks, is, os, mfo, mif, mmo, mof, mst, mun, mbe, mfa, mgo, mim, mit, min, mmk, mom, mot, mou, mpl, mrw, msu, msy, mva, mwo, p1, p2, p3⟩ := perf (v1 := xi 15) (v2 := xi 16) (v3 := xi 17) (sp1 := xi 6) (sp2 := xi 9) (x1 := mi 12) (x2 := mi 14) (x3 := mi 11) (x4 := mi 16) (x5 := mi 15) (x6 := mi 13) (x7 := mi 0) (x8 := mi 17) (be := xa 23) (iF := xa 24) (oF := xa 25) (smp := xa 26) (sta := xa 22) (tl := xa 27) (lo := xa 13) (re := xa 14) (so := xa 12) (su := xa 11) (lo2 := xa 17) (re2 := xa 18) (so2 := xa 16) (su2 := xa 15) (c := xa 2) (mk := xa 3) (mbe := ma 24) (fat := ma 23) (go := ma 25) (im := ma 18) (iT := ma 19) (inn := ma 17) (mkd := ma 12) (om := ma 21) (oT := ma 22) (ou := ma 20) (pl := ma 14) (rows := ma 16) (ms := ma 26) (sy := ma 13) (vals := ma 15) (wd := ma 11) cT cR hD hN hN0 e1 e2 hS1 hS2 e3 e4 (by rw [← hpr]; exact g1) (show wn ≤ 20 from by omega) (show q1 ≤ 2 from by omega) (show q2 ≤ 2 from by omega) cb cm
    refine ⟨rr, is, os, 1, fo, sf, lo, re, so, su', lo2, re2, so2, su2, bes, iF, oF, smp, sta, tal, cells, marks, rr, mfo, mif, 1, mmo, mof, mst, 0, mun, mbe, mfa, mgo, mim, mit, min, mmk, mom, mot, mou, mpl, mrw, msu, msy, mva, mwo, ?_, p2, rfl, hC, hS, hE, hB, hD.mono, p3⟩
    unfold fX9_play fX3_framesPressed
    rw [nt1E, if_neg g1, reach q1 (by omega), nt1E, if_neg ne10, reach q2 (by omega), nt1E, if_neg ne10, if_neg (nI_pos (by omega)), if_pos (show nI wn ≤ (20 : Int32) from nI_le (b := 20) (by omega) (by omega)), c4, c7, p1]
    rfl
  · have isR : ∀ y : Int32, (0 ≤ y.toInt ∧ y.toInt ≤ 2 → fX9_isReach y = 1 ∧ fX10_in (Int32.toInt64 y) 0 2 = 1) ∧ (¬ (0 ≤ y.toInt ∧ y.toInt ≤ 2) → fX9_isReach y = 0 ∧ fX10_in (Int32.toInt64 y) 0 2 = 0) := fun y => by
      refine ⟨fun z => ⟨?_, in_1 (by rw [tl_i]; exact z)⟩, fun z => ⟨?_, in_0 (by rw [tl_i]; exact z)⟩⟩
      · unfold fX9_isReach
        rw [if_neg (fun w => by have := ti_lt.mp w; omega), if_neg (fun w => by have := ti_lt.mp w; omega)]
      · unfold fX9_isReach
        by_cases w : y < 0
        · rw [if_pos w]
        · have w' : ¬ y.toInt < (0 : Int32).toInt := fun u => w (ti_lt.mpr u)
          rw [if_neg w, if_pos (ti_lt.mpr (by omega))]
    refine ⟨-1, xi 6, xi 9, xi 15, xi 16, xi 17, xa 13, xa 14, xa 12, xa 11, xa 17, xa 18, xa 16, xa 15, xa 23, xa 24, xa 25, xa 26, xa 22, xa 27, xa 2, xa 3, -1, mi 12, mi 14, mi 11, mi 16, mi 15, mi 13, 0, mi 17, ma 24, ma 23, ma 25, ma 18, ma 19, ma 17, ma 12, ma 21, ma 22, ma 20, ma 14, ma 16, ma 26, ma 13, ma 15, ma 11, ?_, ?_, rfl, hC, hS, hE, hB, hD.mono, hP⟩
    · unfold fX9_play fX3_framesPressed
      rw [nt1E]
      by_cases h1 : xi 11 = 0
      · rw [if_pos h1]
      · rw [if_neg h1]
        by_cases h2 : 0 ≤ y0.toInt ∧ y0.toInt ≤ 2
        · rw [((isR y0).1 h2).1, nt1E, if_neg ne10]
          by_cases h3 : 0 ≤ y1.toInt ∧ y1.toInt ≤ 2
          · rw [((isR y1).1 h3).1, nt1E, if_neg ne10]
            by_cases h4 : y2 < 0
            · rw [if_pos h4]
            · have h4' : ¬ y2.toInt < (0 : Int32).toInt := fun u => h4 (ti_lt.mpr u)
              rw [if_neg h4, if_neg (fun w => hg ⟨h1, h2, h3, by have := ti_le.mp w; omega⟩)]
          · rw [((isR y1).2 h3).1, nt1E, if_pos rfl]
        · rw [((isR y0).2 h2).1, nt1E, if_pos rfl]
    · unfold fX10_play
      rw [← hpr]
      by_cases h1 : xi 11 = 0
      · rw [if_pos h1]
      · rw [if_neg h1]
        by_cases h2 : 0 ≤ y0.toInt ∧ y0.toInt ≤ 2
        · rw [((isR y0).1 h2).2, nt1E, if_neg ne10]
          by_cases h3 : 0 ≤ y1.toInt ∧ y1.toInt ≤ 2
          · rw [((isR y1).1 h3).2, nt1E, if_neg ne10, in_0 (by rw [tl_i]; exact fun z => hg ⟨h1, h2, h3, z⟩), nt1E, if_pos rfl]
          · rw [((isR y1).2 h3).2, nt1E, if_pos rfl]
        · rw [((isR y0).2 h2).2, nt1E, if_pos rfl]
