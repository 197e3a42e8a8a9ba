/-! ===== press: choosing, and a word laid with its joint ===== -/
def lay (P : Nat → Bool) (n W q i : Nat) : Bool := if n ≤ i ∧ i < n + q then W.testBit (q - 1 - (i - n)) else P i
def Wk (V m k : Nat) : Nat := 2 ^ m * jN k + V
def Qk (P : Nat → Bool) (n V m k : Nat) : Nat → Bool := lay P n (Wk V m k) (m + 3)
theorem Q_lo (P : Nat → Bool) {n V m k i : Nat} (h : i < n) : P i = Qk P n V m k i := by
  unfold Qk lay; rw [if_neg (by omega)]
theorem Q_at (P : Nat → Bool) {n V m k t : Nat} (h : t < m + 3) : Qk P n V m k (n + t) = (Wk V m k).testBit (m + 3 - 1 - t) := by
  unfold Qk lay; rw [if_pos (by omega), show n + t - n = t from by omega]
theorem Wk_bit {V m k : Nat} (hV : V < 2 ^ m) (i : Nat) : (Wk V m k).testBit i = if i < m then V.testBit i else (jN k).testBit (i - m) := Nat.testBit_two_pow_mul_add _ hV i
theorem Wk_lt {V m k : Nat} (hV : V < 2 ^ m) (hk : k < 4) : Wk V m k < 2 ^ (m + 3) := by
  unfold Wk
  have := jN_lt k hk
  have e : 2 ^ (m + 3) = 2 ^ m * 8 := Nat.pow_add 2 m 3
  have h2 : 2 ^ m * jN k ≤ 2 ^ m * 7 := Nat.mul_le_mul_left _ (by omega)
  omega
theorem Q_j (P : Nat → Bool) {n V m k t : Nat} (hV : V < 2 ^ m) (hk : k < 4) (h : t < 3) : Qk P n V m k (n + t) = decide (t + k = 3) := by
  rw [Q_at P (by omega), Wk_bit hV, if_neg (by omega), show m + 3 - 1 - t - m = 2 - t from by omega, jN_bit k hk t h]
theorem Q_v (P : Nat → Bool) {n V m k t : Nat} (hV : V < 2 ^ m) (h : t < m) : Qk P n V m k (n + (3 + t)) = V.testBit (m - 1 - t) := by
  rw [Q_at P (by omega), Wk_bit hV, if_pos (by omega), show m + 3 - 1 - (3 + t) = m - 1 - t from by omega]
theorem reE {P : Nat → Bool} {re : Int64} {W n q : Nat} (hq : q ≤ 30) (hW : W < 2 ^ q) (hP : ∀ t, t < q → P (n + t) = W.testBit (q - 1 - t)) (h3 : ∀ t, t < 64 → bl re t = bk P n t) : ∀ t, t < 64 → bl ((re <<< (Int32.toInt64 (nI q) &&& 63)) ||| Int32.toInt64 (nI W)) t = bk P (n + q) t := fun t ht => by
  have hVb : W < 2147483648 := Nat.lt_of_lt_of_le hW (Nat.pow_le_pow_right (n := 2) (j := 31) (by omega) (by omega))
  rw [bl_or, bl_shl q (by omega) re ht, bl_nI hVb t ht]
  by_cases z : t < q
  · rw [decide_eq_false (show ¬ q ≤ t from by omega), bk_lo P n q t z, hP _ (by omega), show q - 1 - (q - 1 - t) = t from by omega]; simp
  · rw [decide_eq_true (show q ≤ t from by omega), h3 _ (by omega), Nat.testBit_lt_two_pow (Nat.lt_of_lt_of_le hW (Nat.pow_le_pow_right (n := 2) (by omega) (by omega)))]
    have := bk_add P n q (t - q)
    rw [show q + (t - q) = t from by omega] at this
    rw [this]; simp
theorem absE {s : Int} (h1 : -360000 ≤ s) (h2 : s ≤ 360000) : (if 0 ≤ iI s then iI s else (0 : Int32) - iI s) = nI s.natAbs ∧ (if 0 ≤ iI s then iI s else -iI s) = nI s.natAbs := by
  by_cases h : 0 ≤ s
  · have e : iI s = nI s.natAbs := by rw [iI_n]; exact congrArg iI (by omega)
    rw [e, if_pos (nI_pos' (by omega)), if_pos (nI_pos' (by omega))]
    exact ⟨rfl, rfl⟩
  · have e : iI s = nI 0 - nI s.natAbs := by rw [iI_n, iI_n, iI_sub]; exact congrArg iI (by omega)
    have hn : ¬ 0 ≤ iI s := fun w => by
      have a := ti_le.mp w
      have h0 : (0 : Int32).toInt = 0 := by decide
      have h1' := nI_ti (n := s.natAbs) (by omega)
      have h0' := nI_ti (n := 0) (by omega)
      rw [e, ti_sub (by omega) (by omega)] at a
      omega
    rw [if_neg hn, if_neg hn]
    refine ⟨?_, ?_⟩
    · rw [show (0 : Int32) = iI 0 from rfl, iI_sub, iI_n]; exact congrArg iI (by omega)
    · rw [iI_neg, iI_n]; exact congrArg iI (by omega)
theorem x9E {V m k : Nat} (hm : m ≤ 28) (hV : V < 2 ^ m) : (nI (jN k) <<< (nI m &&& 31)) ||| nI V = nI (Wk V m k) := b_ext (fun i hi => by
  rw [b_or, b_shl m (by omega) _ hi, bt_nI, bt_nI, bt_nI, Wk_bit hV, decide_eq_true hi, decide_eq_true (show i - m < 32 from by omega)]
  by_cases q : i < m
  · rw [if_pos q, decide_eq_false (show ¬ m ≤ i from by omega)]; simp
  · rw [if_neg q, decide_eq_true (show m ≤ i from by omega), Nat.testBit_lt_two_pow (Nat.lt_of_lt_of_le hV (Nat.pow_le_pow_right (n := 2) (by omega) (by omega)))]; simp)
def moq (P : Nat → Bool) (n V m k : Nat) : Bool := decide (m = 14) && mkB (Qk P n V m k) n (m + 3)
def sq' (P : Nat → Bool) (n V m k : Nat) : Int := sm (Qk P n V m k) (n + (m + 3))
theorem tryE {P : Nat → Bool} {n V m k a : Nat} {len lv su ta ze ma mo st : Int32} {bi : Nat → Int32} (hk : k < 4) (hm : m = 14 ∨ m = 24) (hV : V < 2 ^ m) (hn : n + (m + 3) ≤ 360000) (ham : a < m) (h0 : ∀ t, t < a → V.testBit (m - 1 - t) = false) (h1 : V.testBit (m - 1 - a) = true) (hR : RS n P len lv su ta ze bi) : fX10_tryJoint lv ma mo su st ta ze (nI (jN k)) (nI V) (nI m) = some (b01 (mayK (zr P n) k a), b01 (moq P n V m k), iI (sq' P n V m k)) := by
  have hR' := hR.congr (Q := Qk P n V m k) (fun i hi => Q_lo P hi)
  obtain ⟨r1, r2, r3, r4, r5, r6⟩ := hR'
  have hz : zr P n = zr (Qk P n V m k) n := zr_congr n (fun i hi => Q_lo P hi)
  have hmay := mayR (P := Qk P n V m k) (V := V) (n := n) (m := m) (k := k) (a := a) hk ham (fun t ht => Q_j P hV hk ht) (fun t ht => Q_v P hV ht) h0 h1
  unfold fX10_tryJoint
  rw [nmE, show nI m + (2 : Int32) = dn (m + 3) from nI_add m 2]
  have := tjL (P := Qk P n V m k) (V := V) (n := n) (m := m) (j := jN k) (by omega) (by omega) (by omega) (fun w hw => by
    rw [Q_at P (by omega), Wk_bit hV, show m + 3 - 1 - (m + 2 - w) = w from by omega]) FU (m + 3) 0 ta lv ze 1 0 su (by rw [FU_eq]; omega) (by omega) (by rw [Nat.sub_self]; rfl) (by rw [Nat.sub_self]; exact r4) (by rw [Nat.sub_self]; exact r2) (by rw [Nat.sub_self]; exact r5) (by rw [Nat.sub_self]; rfl) (by rw [Nat.sub_self]; show _ = b01 (decide (m = 14) && false); rw [Bool.and_false]; rfl) (by rw [Nat.sub_self]; exact r3)
  rw [this, hmay, ← hz]; rfl
theorem mocE {P : Nat → Bool} {n V k : Nat} {re : Int64} (hV : V < 2 ^ 14) (hk : k < 4) (h3 : ∀ t, t < 64 → bl re t = bk P n t) : fX6_mocks re (nI (Wk V 14 k)) (nI 17) = some (b01 (moq P n V 14 k)) := by
  unfold fX6_mocks
  rw [nmE, nmE]
  have hre := reE (P := Qk P n V 14 k) (re := re) (W := Wk V 14 k) (n := n) (q := 17) (by omega) (Wk_lt (m := 14) hV hk) (fun t ht => Q_at P ht) (fun t ht => by rw [h3 t ht]; exact bk_congr (fun i hi => Q_lo P hi) t)
  have := mocL hre rfl FU 0 (by omega) (by rw [FU_eq]; omega) (fun s hs => by omega)
  have e : moq P n V 14 k = mkB (Qk P n V 14 k) n 17 := by unfold moq; rfl
  rw [e]
  exact this
theorem choL {P : Nat → Bool} {n V m a : Nat} {gap lv : Int32} {re : Int64} {su sz : Int32} {pk : Nat → Int32} {len mlv msu ta ze : Int32} {bi : Nat → Int32} (hm : m = 14 ∨ m = 24) (hV : V < 2 ^ m) (hn : n + (m + 3) ≤ 360000) (ham : a < m) (ha10 : a ≤ 10) (h0 : ∀ t, t < a → V.testBit (m - 1 - t) = false) (h1 : V.testBit (m - 1 - a) = true) (hC : CS n P gap lv re su sz pk) (hR : RS n P len mlv msu ta ze bi) (hex : ∃ k, k < 4 ∧ mayK (zr P n) k a = true) :
    ∀ (F k : Nat) (x6 x5 x4 y5 y4 y3 ma mo st : Int32), k ≤ 4 → 4 - k < F → ((x6 = 1 ∧ x5 = 360001 ∧ x4 = 0 ∧ y5 = 0 ∧ y4 = 0 ∧ y3 = -1 ∧ ∀ k', k' < k → mayK (zr P n) k' a = false) ∨ (∃ (q d : Nat) (M : Bool), q < 4 ∧ d ≤ 360000 ∧ x6 = b01 M ∧ y5 = b01 M ∧ x5 = nI d ∧ y4 = nI d ∧ x4 = nI (jN q) ∧ y3 = nI (jN q))) →
    ∃ (q : Nat) (ma' mo' st' : Int32), q < 4 ∧ fX6_chooseJoint_L19 gap (nI a) (nI m) (nI V) su lv re F (nI k) x6 x5 x4 = some (nI (jN q)) ∧ fX10_jointFor_L11 mlv msu ta ze (nI V) (nI m) F (nI k) y5 y4 y3 ma mo st = some (nI (jN q), ma', mo', st') := by
  intro F
  induction F with
  | zero => intro k _ _ _ _ _ _ _ _ _ _ h; omega
  | succ F ih =>
    intro k x6 x5 x4 y5 y4 y3 ma mo st hk hF hB
    rw [fX6_chooseJoint_L19.eq_2, fX10_jointFor_L11.eq_2]
    by_cases hc : 4 ≤ k
    · rw [if_pos (show (3 : Int32) < nI k from nI_lt (a := 3) (by omega) (by omega)), if_pos (show (4 : Int32) ≤ nI k from nI_le (a := 4) hc (by omega))]
      rcases hB with ⟨_, _, _, _, _, _, hno⟩ | ⟨q, d, M, hq, hd, b1, b2, b3, b4, b5, b6⟩
      · obtain ⟨k', hk', hm'⟩ := hex
        rw [hno k' (by omega)] at hm'
        exact absurd hm' (by decide)
      · exact ⟨q, ma, mo, st, hq, by rw [b5], by rw [b6]⟩
    · have hk4 : k < 4 := by omega
      obtain ⟨c1, c2, c3, c4, c5, c6⟩ := id hC
      have hz := zr_le P n
      have hsq : su + lv * fX3_rise (nI (Wk V m k) <<< (((32 : Int32) - nI (m + 3)) &&& 31)) (nI (m + 3)) = iI (sq' P n V m k) := by
        rw [riseE (P := Qk P n V m k) (n := n) (by omega) (by omega) (fun t ht => Q_at P ht), c2, c4, iI_mul, iI_add, sm_congr n (fun i hi => Q_lo (n := n) (V := V) (m := m) (k := k) P hi), lvl_congr n (fun i hi => Q_lo (n := n) (V := V) (m := m) (k := k) P hi), ← sm_add]; rfl
      obtain ⟨bd1, bd2⟩ := sm_bd (Qk P n V m k) (n + (m + 3))
      obtain ⟨ab1, ab2⟩ := absE (s := sq' P n V m k) (by unfold sq'; omega) (by unfold sq'; omega)
      have hd : (sq' P n V m k).natAbs ≤ 360000 := by unfold sq'; omega
      rw [if_neg (show ¬ (3 : Int32) < nI k from nI_nlt (a := 3) (by omega) (by omega)), if_neg (show ¬ (4 : Int32) ≤ nI k from nI_ge (b := 4) (by omega) (by omega)), jk_ite, jN_r k hk4, tryE hk4 hm hV hn ham h0 h1 hR, ob3E, jk_ite, ab2, nmE, jN_c k hk4, show fX6_mayBe gap (nI k) (nI a) = some (b01 (mayK (zr P n) k a)) from by rw [c1]; exact mayC (by omega) hk4 (by omega), ob1E]
      generalize hmo : moq P n V m k = MO at *
      generalize hfa : (sq' P n V m k).natAbs = D at *
      simp only [nmE]
      rw [nI_1]
      -- the two ways on
      have up := fun (ma mo st : Int32) => ih (k + 1) (b01 MO) (nI D) (nI (jN k)) (b01 MO) (nI D) (nI (jN k)) ma mo st (by omega) (by omega) (Or.inr ⟨k, D, MO, hk4, hd, rfl, rfl, rfl, rfl, rfl, rfl⟩)
      cases hmay : mayK (zr P n) k a with
      | false =>
        rw [jkE, if_pos (show b01 false = (0 : Int32) from rfl), jkE, if_pos (show b01 false = (0 : Int32) from rfl)]
        refine ih (k + 1) x6 x5 x4 y5 y4 y3 _ _ _ (by omega) (by omega) ?_
        rcases hB with ⟨b1, b2, b3, b4, b5, b6, b7⟩ | hB
        · exact Or.inl ⟨b1, b2, b3, b4, b5, b6, fun k' hk' => by
            by_cases z : k' = k
            · rw [z, hmay]
            · exact b7 k' (by omega)⟩
        · exact Or.inr hB
      | true =>
        rw [jkE, if_neg (show ¬ b01 true = (0 : Int32) from by decide), x9E (by omega) hV, show nI m + (3 : Int32) = nI (m + 3) from nI_add m 3]
        -- the class's mocks
        have hmoc : ∀ (f : Int32 → Option Int32), (jk f fun j81_21 => jk (j81_21 0) fun j80_31 => if nI m = (14 : Int32) then ob1 (fX6_mocks re (nI (Wk V m k)) (nI (m + 3))) fun r_33 => if r_33 = 0 then j80_31 else j81_21 1 else j80_31) = f (b01 MO) := fun f => by
          rw [jkE, jkE]
          rcases hm with e | e
          · subst e
            rw [if_pos (show nI 14 = (14 : Int32) from rfl), mocE hV hk4 c3, ob1E, hmo]
            cases MO
            · rw [if_pos (show b01 false = (0 : Int32) from rfl)]; rfl
            · rw [if_neg (show ¬ b01 true = (0 : Int32) from by decide)]; rfl
          · subst e
            rw [if_neg (by decide), ← hmo]; rfl
        rw [hmoc, nt1E, hsq, ab1]
        simp only [jkE]
        rw [if_neg (show ¬ b01 true = (0 : Int32) from by decide)]
        rcases hB with ⟨b1, b2, b3, b4, b5, b6, b7⟩ | ⟨q, d, M, hq, hdd, b1, b2, b3, b4, b5, b6⟩
        · subst b1; subst b2; subst b3; subst b4; subst b5; subst b6
          rw [if_pos (show (-1 : Int32) = -1 from rfl), if_neg ne10]
          cases MO with
          | false => rw [if_pos (show b01 false = (0 : Int32) from rfl)]; exact up _ _ _
          | true =>
            rw [if_neg (show ¬ b01 true = (0 : Int32) from by decide), if_pos (show (1 : Int32) = b01 true from rfl), if_neg (show ¬ (360001 : Int32) ≤ nI D from nI_ge (b := 360001) (by omega) (by omega))]
            exact up _ _ _
        · have stay := fun (ma mo st : Int32) => ih (k + 1) x6 x5 x4 y5 y4 y3 ma mo st (by omega) (by omega) (Or.inr ⟨q, d, M, hq, hdd, b1, b2, b3, b4, b5, b6⟩)
          subst b1; subst b2; subst b3; subst b4; subst b5; subst b6
          have hjn : ¬ nI (jN q) = (-1 : Int32) := nI_m1 (by have := jN_lt q hq; omega)
          rw [if_neg hjn]
          cases M with
          | false =>
            rw [if_pos (show b01 false = (0 : Int32) from rfl), if_pos (show b01 false = (0 : Int32) from rfl)]
            cases MO with
            | false =>
              rw [if_pos (show b01 false = b01 false from rfl), if_pos (show b01 false = (0 : Int32) from rfl)]
              by_cases hlt : D < d
              · rw [if_neg (nI_ge hlt (by omega)), if_pos (nI_lt hlt (by omega))]; exact up _ _ _
              · rw [if_pos (nI_le (by omega) (by omega)), if_neg (nI_nlt (by omega) (by omega))]; exact stay _ _ _
            | true =>
              rw [if_neg (show ¬ b01 false = b01 true from by decide), if_neg (show ¬ b01 true = (0 : Int32) from by decide), if_pos (show b01 false = (0 : Int32) from rfl)]; exact stay _ _ _
          | true =>
            rw [if_neg (show ¬ b01 true = (0 : Int32) from by decide), if_neg (show ¬ b01 true = (0 : Int32) from by decide)]
            cases MO with
            | false =>
              rw [if_pos (show b01 false = (0 : Int32) from rfl), if_pos (show b01 false = (0 : Int32) from rfl)]; exact up _ _ _
            | true =>
              rw [if_neg (show ¬ b01 true = (0 : Int32) from by decide), if_neg (show ¬ b01 true = (0 : Int32) from by decide), if_pos (show b01 true = b01 true from rfl), if_neg (show ¬ b01 true = (0 : Int32) from by decide), if_neg (show ¬ b01 true = (0 : Int32) from by decide)]
              by_cases hlt : D < d
              · rw [if_neg (nI_ge hlt (by omega)), if_pos (nI_lt hlt (by omega))]; exact up _ _ _
              · rw [if_pos (nI_le (by omega) (by omega)), if_neg (nI_nlt (by omega) (by omega))]; exact stay _ _ _
