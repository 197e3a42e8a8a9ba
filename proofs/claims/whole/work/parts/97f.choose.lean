/-! ===== press: the joint that is chosen ===== -/
def tjB (x3 x2 x1 : Int32) (F44_10 : Nat) (x8_2 x6_4 x5_5 x4_6 v_mocks_8 v_sumThen_9 t_12 x7_14 v_may_15 : Int32) : Option (Int32 × Int32 × Int32) := jk (fun (t_17 : Int32) => jk (fun (t_19 : Int32) => nm ((v_sumThen_9 + t_19) : Int32) fun v_sumThen_21 => nm ((((x6_4 <<< ((1 : Int32) &&& 31) : Int32) ||| t_12) &&& (16777215 : Int32)) : Int32) fun x6_22 => jk (fun (t_23 : Int32) => og (zb t_23) (nm (x8_2 + (-1) : Int32) fun x8_26 => fX10_tryJoint_L44 x3 x2 x1 F44_10 x8_26 x7_14 x6_22 t_19 t_17 v_may_15 t_23 v_sumThen_21)) fun j208_24 => jk (j208_24 1) fun j203_27 => if v_mocks_8 = 0 then jk (j208_24 0) fun j207_29 => if x3 = (14 : Int32) then if x6_22 = (8392706 : Int32) then j203_27 else j207_29 else j207_29 else j203_27) fun j157_20 => if t_12 = (1 : Int32) then j157_20 (-x5_5) else j157_20 x5_5) fun j141_18 => if t_12 = (1 : Int32) then j141_18 0 else j141_18 (x4_6 + (1 : Int32))
theorem tjE (x3 x2 x1 : Int32) (F44_10 : Nat) (x8_2 x7_3 x6_4 x5_5 x4_6 v_may_7 v_mocks_8 v_sumThen_9 : Int32) : fX10_tryJoint_L44 x3 x2 x1 (F44_10 + 1) x8_2 x7_3 x6_4 x5_5 x4_6 v_may_7 v_mocks_8 v_sumThen_9 = if x8_2 < 0 then some (v_may_7, v_mocks_8, v_sumThen_9) else jk (fun (t_12 : Int32) => jk (tjB x3 x2 x1 F44_10 x8_2 x6_4 x5_5 x4_6 v_mocks_8 v_sumThen_9 t_12) fun j127_16 => if t_12 = (1 : Int32) then if x7_3 = 0 then jk (fun (t_36 : Int32) => og (zb t_36) (jk (fun (t_39 : Int32) => j127_16 t_39 t_36) fun j125_40 => if x3 ≤ x8_2 then j125_40 0 else j125_40 1)) fun j111_37 => jk (j111_37 0) fun j110_42 => if v_may_7 = 0 then j110_42 else if x4_6 ≤ (1 : Int32) then j110_42 else if (11 : Int32) ≤ x4_6 then j110_42 else j111_37 1 else j127_16 x7_3 v_may_7 else j127_16 x7_3 v_may_7) fun j72_13 => if x8_2 < x3 then j72_13 ((x2 >>> (x8_2 &&& 31) : Int32) &&& (1 : Int32)) else j72_13 ((x1 >>> ((x8_2 - x3) &&& 31) : Int32) &&& (1 : Int32)) := by
  rw [fX10_tryJoint_L44.eq_2]
  rfl
theorem tjB_eq {x2 x1 : Int32} {m F : Nat} {x8 x6 x5 x4 su d y : Int32} {M b : Bool} (hm : m < 100) : tjB (nI m) x2 x1 F x8 x6 x5 x4 (b01 M) su (b01 b) d y = fX10_tryJoint_L44 (nI m) x2 x1 F (x8 + (-1)) d (((x6 <<< ((1 : Int32) &&& 31)) ||| b01 b) &&& (16777215 : Int32)) (if b then -x5 else x5) (if b then 0 else x4 + 1) y (b01 (M || (decide (m = 14) && decide ((((x6 <<< ((1 : Int32) &&& 31)) ||| b01 b) &&& (16777215 : Int32)) = 8392706)))) (su + (if b then -x5 else x5)) := by
  unfold tjB
  rw [jk_ite, jk_ite, b01_ite, b01_ite, nmE, nmE]
  generalize (((x6 <<< ((1 : Int32) &&& 31)) ||| b01 b) &&& (16777215 : Int32)) = TA
  rw [jkE, jkE]
  cases M with
  | true =>
    rw [if_neg (show ¬ b01 true = (0 : Int32) from by decide)]
    refine Eq.trans (og_t zb1) ?_
    rw [nmE]; rfl
  | false =>
    rw [if_pos (show b01 false = (0 : Int32) from rfl), jkE]
    by_cases h : m = 14
    · rw [if_pos (show nI m = (14 : Int32) from congrArg nI h), decide_eq_true h]
      by_cases h2 : TA = 8392706
      · rw [if_pos h2]
        refine Eq.trans (og_t zb1) ?_
        rw [nmE, decide_eq_true h2]; rfl
      · rw [if_neg h2]
        refine Eq.trans (og_t zb0) ?_
        rw [nmE, decide_eq_false h2]; rfl
    · rw [if_neg (show ¬ nI m = (14 : Int32) from fun z => h ((nI_eq (b := 14) (by omega) (by omega)).mp z))]
      refine Eq.trans (og_t zb0) ?_
      rw [nmE, decide_eq_false h]; rfl
theorem tjL {P : Nat → Bool} {V n m j : Nat} (hm : m < 100) (hn : n + m ≤ 400000) (hm31 : m + 3 ≤ 31) (hb : ∀ w, w < m + 3 → P (n + (m + 2 - w)) = if w < m then V.testBit w else j.testBit (w - m)) : ∀ (F K : Nat) (x7 x6 x5 x4 ma mo su : Int32), K < F → K ≤ m + 3 → x7 = b01 (dmF P n (m + 3 - K)).1 → (∀ t, t < 32 → bt x6 t = (decide (t < 24) && bk P (n + (m + 3 - K)) t)) → x5 = iI (lvl P (n + (m + 3 - K))) → x4 = nI (zr P (n + (m + 3 - K))) → ma = b01 (dmF P n (m + 3 - K)).2 → mo = b01 (decide (m = 14) && mkB P n (m + 3 - K)) → su = iI (sm P (n + (m + 3 - K))) →
    fX10_tryJoint_L44 (nI m) (nI V) (nI j) F (dn K) x7 x6 x5 x4 ma mo su = some (b01 (dmF P n (m + 3)).2, b01 (decide (m = 14) && mkB P n (m + 3)), iI (sm P (n + (m + 3)))) := by
  intro F
  induction F with
  | zero => intro K _ _ _ _ _ _ _ h; omega
  | succ F ih =>
    intro K x7 x6 x5 x4 ma mo su hF hK h7 h6 h5 h4 ha ho hs
    rw [tjE]
    cases K with
    | zero =>
      rw [if_pos dn_0, ha, ho, hs]; rfl
    | succ w =>
      have ep : m + 3 - (w + 1) = m + 2 - w := by omega
      have ep1 : m + 3 - w = m + 2 - w + 1 := by omega
      rw [ep] at h7 h6 h5 h4 ha ho hs
      have hbit := hb w (by omega)
      generalize hp : m + 2 - w = p at *
      have ih' := ih w
      rw [ep1] at ih'
      have hz := zr_le P (n + p)
      rw [show dn (w + 1) = nI w from rfl, if_neg (nI_pos (by omega)), jk_ite]
      have et : (if nI w < nI m then (nI V >>> (nI w &&& 31)) &&& (1 : Int32) else (nI j >>> ((nI w - nI m) &&& 31)) &&& (1 : Int32)) = b01 (P (n + p)) := by
        by_cases q : w < m
        · rw [if_pos (nI_lt q (by omega)), sbN (by omega), hbit, if_pos q]
        · rw [if_neg (nI_nlt (by omega) (by omega)), pk_sub (by omega), sbN (by omega), hbit, if_neg q]
      rw [et]
      have fin : ∀ d y : Bool, d = (dmF P n (p + 1)).1 → y = (dmF P n (p + 1)).2 → tjB (nI m) (nI V) (nI j) F (nI w) x6 x5 x4 mo su (b01 (P (n + p))) (b01 d) (b01 y) = some (b01 (dmF P n (m + 3)).2, b01 (decide (m = 14) && mkB P n (m + 3)), iI (sm P (n + (m + 3)))) := fun d y hd hy => by
        rw [ho, tjB_eq hm, dn_s]
        have ht := tail_s h6 (b := P (n + p)) rfl
        have el : (if P (n + p) = true then -x5 else x5) = iI (lvl P (n + p + 1)) := by
          rw [lvl_s, h5]
          cases P (n + p)
          · rfl
          · exact iI_neg _
        refine ih' _ _ _ _ _ _ _ (by omega) (by omega) (by rw [hd]) ht el ?_ (by rw [hy]) ?_ ?_
        · rw [h4]
          cases hc : P (n + p) with
          | false => rw [show n + (p + 1) = n + p + 1 from rfl, zr_f hc]; exact nI_1 _
          | true => rw [show n + (p + 1) = n + p + 1 from rfl, zr_t hc]; rfl
        · rw [tail_win ht]
          show b01 _ = b01 (decide (m = 14) && (mkB P n p || win P (n + p + 1) 0))
          cases decide (m = 14) <;> rfl
        · rw [el, hs, iI_add]; rfl
      cases hc : P (n + p) with
      | false =>
        rw [hc] at fin
        have ed : dmF P n (p + 1) = dmF P n p := dm_f hc
        rw [jkE, if_neg (show ¬ b01 false = (1 : Int32) from by decide), h7, ha]
        exact fin _ _ (by rw [ed]) (by rw [ed])
      | true =>
        rw [hc] at fin
        rw [jkE, if_pos (show b01 true = (1 : Int32) from rfl)]
        cases hd : (dmF P n p).1 with
        | true =>
          have ed : dmF P n (p + 1) = dmF P n p := dm_d hd
          rw [h7, hd, if_neg (show ¬ b01 true = (0 : Int32) from by decide), ha]
          exact fin true _ (by rw [ed, hd]) (by rw [ed])
        | false =>
          have ed := dm_t hc hd
          rw [h7, hd, if_pos (show b01 false = (0 : Int32) from rfl), jkE, jkE]
          have fin2 : ∀ y : Bool, y = (dmF P n (p + 1)).2 → og (zb (b01 y)) (jk (fun (t_39 : Int32) => tjB (nI m) (nI V) (nI j) F (nI w) x6 x5 x4 mo su (b01 true) t_39 (b01 y)) fun j125_40 => if nI m ≤ nI w then j125_40 0 else j125_40 1) = some (b01 (dmF P n (m + 3)).2, b01 (decide (m = 14) && mkB P n (m + 3)), iI (sm P (n + (m + 3)))) := fun y hy => by
            rw [og_t (zb01 y), jk_ite]
            have e3 : (if nI m ≤ nI w then (0 : Int32) else 1) = b01 (decide (3 ≤ p)) := by
              by_cases q : m ≤ w
              · rw [if_pos (nI_le q (by omega)), decide_eq_false (show ¬ 3 ≤ p from by omega)]; rfl
              · rw [if_neg (nI_ge (by omega) (by omega)), decide_eq_true (show 3 ≤ p from by omega)]; rfl
            rw [e3]
            exact fin _ y (by rw [ed]) hy
          have ed2 : (dmF P n (p + 1)).2 = ((dmF P n p).2 && rnG (zr P (n + p))) := by rw [ed]
          have f0 := fun (e : (dmF P n (p + 1)).2 = false) => fin2 false e.symm
          have f1 := fun (e : (dmF P n (p + 1)).2 = true) => fin2 true e.symm
          rw [ed2] at f0 f1
          cases hv : (dmF P n p).2 with
          | false =>
            rw [ha, hv, if_pos (show b01 false = (0 : Int32) from rfl)]
            exact f0 (by rw [hv]; rfl)
          | true =>
            rw [ha, hv, if_neg (show ¬ b01 true = (0 : Int32) from by decide)]
            rw [hv, Bool.true_and] at f0 f1
            have f0' := f0
            have f1' := f1
            unfold rnG at f0' f1'
            rw [h4] at f0' f1' ⊢
            by_cases q1 : 2 ≤ zr P (n + p)
            · rw [if_neg (show ¬ nI (zr P (n + p)) ≤ (1 : Int32) from nI_ge (a := 1) (by omega) (by omega))]
              by_cases q2 : zr P (n + p) ≤ 10
              · rw [if_neg (show ¬ (11 : Int32) ≤ nI (zr P (n + p)) from nI_ge (b := 11) (by omega) (by omega))]
                exact f1' (by rw [decide_eq_true q1, decide_eq_true q2]; rfl)
              · rw [if_pos (show (11 : Int32) ≤ nI (zr P (n + p)) from nI_le (a := 11) (by omega) (by omega))]
                exact f0' (by rw [decide_eq_false q2]; simp)
            · rw [if_pos (show nI (zr P (n + p)) ≤ (1 : Int32) from nI_le (b := 1) (by omega) (by omega))]
              exact f0' (by rw [decide_eq_false q1]; rfl)
