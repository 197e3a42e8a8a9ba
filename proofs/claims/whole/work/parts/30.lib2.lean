set_option maxRecDepth 100000 in
theorem tw_OC : Cond.code objectInit ⟨#[0xb1]⟩ 1 none ∈ LW := List.mem_filter.mpr ⟨List.mem_append_right _ (List.mem_of_getElem? (i := 22) rfl), rfl⟩
/-! ===== constructors ===== -/
def NWs (U : State) : Prop := va_Nw (.methodLinkNest RX9 14 yX7_init "CompactDisc") U ∧ va_Nw (.methodLinkNest RX9 21 yX1_init "CompactDisc") U ∧ va_Nw (.methodLinkNest RX9 47 yX3_init "CompactDisc") U ∧ va_Nw (.methodLinkNest RX6 11 yX4_init "CompactDisc") U ∧ va_Nw (.methodLinkNest RX5 11 yX4_init "CompactDisc") U
theorem NWs.same {u U : State} (h : u.vm = U.vm) (n : NWs u) : NWs U := ⟨va_Nw.same rfl h n.1, va_Nw.same rfl h n.2.1, va_Nw.same rfl h n.2.2.1, va_Nw.same rfl h n.2.2.2.1, va_Nw.same rfl h n.2.2.2.2⟩
theorem NWs.warm {s U : State} (h : s.WarmedH U.vm) (n : NWs s) : NWs U := ⟨va_Nw.warmM h n.1, va_Nw.warmM h n.2.1, va_Nw.warmM h n.2.2.1, va_Nw.warmM h n.2.2.2.1, va_Nw.warmM h n.2.2.2.2⟩
def QN (D : va_G) (tys : List (ClassId × FieldType)) (A : Nat → Prop) (wf : (Nat → Nat) → va_W) : Array Value → State → Outcome → State → Prop := fun _ st oc t => (∃ u : Nat → Nat, oc = .returned none ∧ va_P D vwCl (wf u) t.heap ∧ va_K D vwCl tys t ∧ va_D A (wf u)) ∧ va_F A st t
def CtrN (l : Launch) (y : MethodName) (cc : ByteArray) (mL : Nat) (rm : Room) (D : va_G) (tys : List (ClassId × FieldType)) (tw : Nat) (av : List Value) (wc : va_W) (wf : (Nat → Nat) → va_W) : Prop :=
  ∀ sz : Nat, Met l y (Cond.code y cc mL none :: LW) rm (va_Pc av (fun U => PreW D tys tw sz wc U ∧ NWs U)) (QN D tys (va_A wc sz) wf) rm.cells rm.slots (va_A wc sz)
theorem ctrN_of {l : Launch} {y : MethodName} {cc : ByteArray} {mL : Nat} {rm : Room} {D : va_G} {tys : List (ClassId × FieldType)} {tw : Nat} {av : List Value} {wc : va_W} {wf : (Nat → Nat) → va_W} (own : String) (hy : plainName y.cls = true) (hown : y.cls = own) (hyn : y.name = "<init>") (hlen : (lg_sl av).length ≤ mL)
    (body : ∀ (p : Program) (e : Env) (s : State) (m : MethodId) (below : List Frame) (meth : Method) (c : Code) (A : Nat → Prop), Cx p s m av.toArray meth c cc mL none own D tys tw A → meth.name = "<init>" → NWs s → Wd D A s wc s.heap [] → ∀ ls : Array Slot, lv_has ls mL (lv_args 0 av) →
      W p l e rm s m av.toArray below meth c s.heap [] 0 0 (MQ below (QN D tys A wf) av.toArray s rm.cells rm.slots A) (F0 m 0 ls [])) : CtrN l y cc mL rm D tys tw av wc wf := by
  intro sz
  refine Met.ofW (cc := cc) (maxL := mL) (ret := none) hy rfl ?_
  intro p e s m args below meth c s₁ B hml hv
  obtain ⟨rfl, ⟨hsz, hP, hK, hD0, hZ⟩, hN⟩ := hv
  have hts := atoms_spec (ws := Cond.code y cc mL none :: LW) B.pre
  have ho : s.vm.findClass own = some m.cls := by rw [← hown]; exact findClass_of_methodNamed B.named
  have hin : meth.name = "<init>" := by rw [← hyn]; exact (name_of_methodNamed B.named B.method).1
  subst hsz
  have hl := lv_entry av (n := mL) hlen
  rw [lg_entry_eq]
  exact body p e s m below meth c (va_A wc s.heap.size) ⟨B.exec, B.bytes, hml, ho, fun w h => hts w (List.mem_cons_of_mem _ h), hK, B.notSynchronized, B.returns, hZ, fun q h => Or.inr h⟩ hin hN ⟨hP, hD0.self, va_S.rf⟩ _ hl
section XN
variable {p : Program} {l : Launch} {e : Env} {R : Room} {s : State} {m : MethodId} {args : Array Value} {below : List Frame} {meth : Method} {c : Code} {H : Heap} {locs : List Loc} {cells slots : Nat} {Q : State → Prop}
variable {cc : ByteArray} {pc mL : Nat} {rt : Option FieldType} {ls : Array Slot} {rest : List Value} {D : va_G} {A : Nat → Prop} {a tw : Nat} {cB cI cZ : ClassId} {tys : List (ClassId × FieldType)} {ws : va_W} {own : String}
theorem x_vretN {wf : (Nat → Nat) → va_W} (u : Nat → Nat) (C : Cx p s m args meth c cc mL none own D tys tw A) (hw : Wd D A s (wf u) H locs) (hdg : decode cc pc = .ok (.return_, 1)) :
    W p l e R s m args below meth c H locs cells slots (MQ below (QN D tys A wf) args s cells slots A) (F0 m pc ls []) := by
  obtain ⟨hx, hb, hml, hown, hts, hK, hlocks, hr, hZ, hA⟩ := C
  obtain ⟨hP, hD, hS⟩ := hw
  exact W.vret hx hb hr (fun t ht hW => ⟨⟨u, rfl, by rw [ht]; exact hP, va_K.moved hW.alike hK, hD⟩, hS.F ht⟩) hS.2.2 hdg
theorem x_objI {idx : Nat} (C : Cx p s m args meth c cc mL rt own D tys tw A) (hsz : ls.size = mL) (hlink : Cond.methodLink own idx objectInit ∈ LW) (hfr : 1 ≤ R.frames) (hlo : (rest.map fun v => v.category).sum + 12 ≤ R.locals) (hdg : decode cc pc = .ok (.invokespecial idx, 3))
    (kk : W p l e R s m args below meth c H locs cells slots Q (F0 m (pc + 3) ls rest)) : W p l e R s m args below meth c H locs cells slots Q (F0 m pc ls (.ref a :: rest)) := by
  obtain ⟨hx, hb, hml, hown, hts, hK, hlocks, hr, hZ, hA⟩ := C
  refine W.objInit hx hb hown (hts _ hlink) (hts _ tw_21) (hts _ tw_OC) rfl (by rw [hml]; exact hsz) rfl hdg hfr ?_ ?_
  · show 2 * 0 + _ + 12 ≤ _
    omega
  · exact kk
theorem x_newI (n : Int32) (N : Nat) (C : Cx p s m args meth c cc mL rt own D (tyL cB cI cZ) tw A) (hw : Wd D A s ws H locs) (hn : ¬ n < 0) (hN : n.toNatClampNeg = N) (hby : N * componentBytes .int ≤ 536870912) (hc : cells + 1 ≤ R.cells) (hs : slots + N ≤ R.slots) (hdg : decode cc pc = .ok (.newarray .int, 2))
    (kk : ∀ (q : Nat) (H1 : Heap), Wd D A s (ws ++ [(q, .inl (cI, N, .inl (fun _ => 0)))]) H1 locs → W p l e R s m args below meth c H1 locs (cells + 1) (slots + N) Q (F0 m (pc + 2) ls (.ref q :: rest))) : W p l e R s m args below meth c H locs cells slots Q (F0 m pc ls (.int n :: rest)) := by
  obtain ⟨hx, hb, hml, hown, hts, hK, hlocks, hr, hZ, hA⟩ := C
  refine va_newa (atype := .int) hx hb (hts _ tw_39) rfl hK hw.1 hw.2.1 hw.2.2 hA (a0 := (N, .inl (fun _ => 0))) (fun cA => rfl) hn hN hby hc hs hdg (fun q cA H1 hK1 hP hD hS => ?_)
  have e1 := (hK1.2 3 (cA, .int) rfl).2
  have e2 := (hK.2 1 (cI, .int) rfl).2
  have e3 : cA = cI := Option.some.inj (e1.symm.trans e2)
  subst e3
  exact kk q H1 ⟨hP, hD, hS⟩
theorem x_newB (n : Int32) (N : Nat) (C : Cx p s m args meth c cc mL rt own D (tyL cB cI cZ) tw A) (hw : Wd D A s ws H locs) (hn : ¬ n < 0) (hN : n.toNatClampNeg = N) (hby : N * componentBytes .byte ≤ 536870912) (hc : cells + 1 ≤ R.cells) (hs : slots + N ≤ R.slots) (hdg : decode cc pc = .ok (.newarray .byte, 2))
    (kk : ∀ (q : Nat) (H1 : Heap), Wd D A s (ws ++ [(q, .inl (cB, N, .inl (fun _ => 0)))]) H1 locs → W p l e R s m args below meth c H1 locs (cells + 1) (slots + N) Q (F0 m (pc + 2) ls (.ref q :: rest))) : W p l e R s m args below meth c H locs cells slots Q (F0 m pc ls (.int n :: rest)) := by
  obtain ⟨hx, hb, hml, hown, hts, hK, hlocks, hr, hZ, hA⟩ := C
  refine va_newa (atype := .byte) hx hb (hts _ tw_53) rfl hK hw.1 hw.2.1 hw.2.2 hA (a0 := (N, .inl (fun _ => 0))) (fun cA => rfl) hn hN hby hc hs hdg (fun q cA H1 hK1 hP hD hS => ?_)
  have e1 := (hK1.2 3 (cA, .byte) rfl).2
  have e2 := (hK.2 0 (cB, .byte) rfl).2
  have e3 : cA = cB := Option.some.inj (e1.symm.trans e2)
  subst e3
  exact kk q H1 ⟨hP, hD, hS⟩
theorem x_newZ (n : Int32) (N : Nat) (C : Cx p s m args meth c cc mL rt own D (tyL cB cI cZ) tw A) (hw : Wd D A s ws H locs) (hn : ¬ n < 0) (hN : n.toNatClampNeg = N) (hby : N * componentBytes .boolean ≤ 536870912) (hc : cells + 1 ≤ R.cells) (hs : slots + N ≤ R.slots) (hdg : decode cc pc = .ok (.newarray .boolean, 2))
    (kk : ∀ (q : Nat) (H1 : Heap), Wd D A s (ws ++ [(q, .inl (cZ, N, .inl (fun _ => 0)))]) H1 locs → W p l e R s m args below meth c H1 locs (cells + 1) (slots + N) Q (F0 m (pc + 2) ls (.ref q :: rest))) : W p l e R s m args below meth c H locs cells slots Q (F0 m pc ls (.int n :: rest)) := by
  obtain ⟨hx, hb, hml, hown, hts, hK, hlocks, hr, hZ, hA⟩ := C
  refine va_newa (atype := .boolean) hx hb (hts _ tw_1170) rfl hK hw.1 hw.2.1 hw.2.2 hA (a0 := (N, .inl (fun _ => 0))) (fun cA => rfl) hn hN hby hc hs hdg (fun q cA H1 hK1 hP hD hS => ?_)
  have e1 := (hK1.2 3 (cA, .boolean) rfl).2
  have e2 := (hK.2 2 (cZ, .boolean) rfl).2
  have e3 : cA = cZ := Option.some.inj (e1.symm.trans e2)
  subst e3
  exact kk q H1 ⟨hP, hD, hS⟩
theorem x_new {Cn : String} {T : u_T} {N ci index : Nat} {ty : Nat → FieldType} (fs : List Value) (C : Cx p s m args meth c cc mL rt own D tys tw A) (hw : Wd D A s ws H locs) (hin : ∀ w ∈ u_ws Cn T N, w ∈ LW) (hty : ∀ k, k < N → parseFieldDescriptor (T k).2.2.1 = some (ty k)) (hcl : Cond.classLink own index Cn ∈ LW) (hi : Cond.instantiable Cn N ∈ LW) (hini : Cond.initialized Cn ∈ LW) (hc : vwCl[ci]? = some (Cn, T, N)) (hfs : ∀ j, j < N → defaultValue (ty j) = vp_V fs j) (hcells : cells + 1 ≤ R.cells) (hslots : slots + N ≤ R.slots) (hdg : decode cc pc = .ok (.new index, 3))
    (kk : ∀ (q : Nat) (H1 : Heap), Wd D A s (ws ++ [(q, .inr (ci, fs))]) H1 locs → W p l e R s m args below meth c H1 locs (cells + 1) (slots + N) Q (F0 m (pc + 3) ls (.ref q :: rest))) : W p l e R s m args below meth c H locs cells slots Q (F0 m pc ls rest) := by
  obtain ⟨hx, hb, hml, hown, hts, hK, hlocks, hr, hZ, hA⟩ := C
  exact va_new hx hb hts hin ty hty hown (hts _ hcl) (hts _ hi) (hts _ hini) hK hw.1 hw.2.1 hw.2.2 hA hc hfs hcells hslots hdg (fun q H1 a1 a2 a3 => kk q H1 ⟨a1, a2, a3⟩)
theorem preN_blind {tw sz : Nat} {wc : va_W} {av : List Value} : FrameBlind (va_Pc av (fun U => PreW D tys tw sz wc U ∧ NWs U)) := fun a U g mk q => by
  obtain ⟨q0, q1, q2⟩ := q
  exact ⟨q0, (preW_blind (av := av) a U g mk ⟨q0, q1⟩).2, NWs.same rfl q2⟩
theorem x_runN {wf : (Nat → Nat) → va_W} {st0 : List Value} {a : Array Value} {wc : va_W} {mc ms : Nat} (wr : va_W) (hA : ∀ q, s.heap.size ≤ q → A q) (hw : Wd D A s ws H locs) (isC isR : List Nat) (hC : isC.map (fun i => ws[i]?) = wc.map some) (hR : isR.map (fun i => ws[i]?) = wr.map some) (hnd : va_nd isR = true) (hdis : ∀ i ∈ isR, i ∉ isC)
    (hr : va_Run p l e R s m args below meth c H locs cells slots mc ms (F0 m pc ls st0) rest (QN D tys (va_A wc H.size) wf a) (va_A wc H.size))
    (kk : ∀ (u : Nat → Nat) (H1 : Heap) (locs1 : List Loc), Wd D A s (wr ++ wf u) H1 locs1 → W p l e R s m args below meth c H1 locs1 (cells + mc) (slots + ms) Q (F0 m (pc + 3) ls rest)) : W p l e R s m args below meth c H locs cells slots Q (F0 m pc ls st0) := by
  obtain ⟨hP, hD, hS⟩ := hw
  have hF := va_free (wc := wc) hD hS hA isC hC
  intro T hT X
  obtain ⟨v, st₀, t, T', L, h0, X', hL, e1, e2, ⟨⟨u, hv, hP1, -, hD1⟩, hz, hk⟩, st⟩ := hr T hT X
  cases hv
  rw [h0] at hz hk
  obtain ⟨j1, j2⟩ := va_join (wr := wr) (w1 := wf u) hP hD isC isR hC hR hnd hdis hk hF hP1 hD1
  obtain ⟨t2, a1, b1⟩ := kk u T'.heap (locs ++ L) ⟨by rw [e1]; exact j1, j2, Nat.le_trans hS.1 (by rw [e1]; exact hz), fun q h1 h2 => by
      rw [e1, hk q (Nat.lt_of_lt_of_le h1 hS.1) (fun z => h2 (hF q z))]; exact hS.2.1 q h1 h2, fun q hq => by
      rcases List.mem_append.mp hq with h | h
      · exact hS.2.2 q h
      · exact hF _ (hL q h)⟩ T' rfl X'
  exact ⟨t2, st t2 a1, b1⟩
def CalI (y : MethodName) (cc : ByteArray) (mL n : Nat) : Prop := Cond.instanceMethod y ∈ LW ∧ Cond.initialized y.cls ∈ LW ∧ Cond.code y cc mL none ∈ LW ∧ y.name = "<init>" ∧ (y.cls ≠ "java/lang/invoke/MethodHandle" ∧ y.cls ≠ "java/lang/invoke/VarHandle" ∧ (parseMethodDescriptor y.desc).map (fun d => d.parameters.length) = some n)
theorem x_callI {y : MethodName} {cc2 : ByteArray} {mL2 n idx b : Nat} {rm : Room} {As st0 : List Value} {wc : va_W} {wf : (Nat → Nat) → va_W} (C : Cx p s m args meth c cc mL rt own D tys tw A) (hNW : NWs s) (hw : Wd D A s ws H locs) (hM : CtrN l y cc2 mL2 rm D tys tw (.ref b :: As) wc wf) (hcal : CalI y cc2 mL2 n) (hlink : Cond.methodLink own idx y ∈ LW)
    (isC isR : List Nat) (wr : va_W) (hndC : va_nd isC = true) (hC : isC.map (fun i => ws[i]?) = wc.map some) (hR : isR.map (fun i => ws[i]?) = wr.map some) (hnd : va_nd isR = true) (hdis : ∀ i ∈ isR, i ∉ isC) (hst : st0 = As.reverse ++ .ref b :: rest) (hn : As.length = n) (hcat : (rest.map fun v => v.category).sum ≤ 8) (hsz : ls.size = mL)
    (hRm : rm.frames + 1 ≤ R.frames ∧ 8 + (mL2 + 11) + rm.locals ≤ R.locals) (hf : cells + rm.cells ≤ R.cells ∧ slots + rm.slots ≤ R.slots) (hdg : decode cc pc = .ok (.invokespecial idx, 3))
    (kk : ∀ (u : Nat → Nat) (H1 : Heap) (locs1 : List Loc), Wd D A s (wr ++ wf u) H1 locs1 → W p l e R s m args below meth c H1 locs1 (cells + rm.cells) (slots + rm.slots) Q (F0 m (pc + 3) ls rest)) : W p l e R s m args below meth c H locs cells slots Q (F0 m pc ls st0) := by
  have hpre := x_pre (As := .ref b :: As) C hw isC hndC hC
  obtain ⟨hx, hb, hml, hown, hts, hK, hlocks, hr, hZ, hA⟩ := id C
  obtain ⟨w1, w3, w4, w5, w6⟩ := hcal
  exact x_runN wr hA hw isC isR hC hR hnd hdis (va_runI (As := As) (rest := rest) ⟨hx, hb, hml, hown, hts⟩ (hM H.size) ⟨callB_of n hts (good_in w4) rfl rfl rfl (hts _ w3) (hts _ hlink) w6 hRm, w5, hts _ w1⟩ ⟨preN_blind, fun U hU hW => ⟨rfl, (hpre.2 U hU hW).2, NWs.warm hW hNW⟩⟩ rfl hn hsz hst (lv_room hcat) hdg hf) kk
theorem x_callIN {y : MethodName} {cc2 : ByteArray} {mL2 n idx b : Nat} {rm : Room} {As st0 : List Value} {wc : va_W} {wf : (Nat → Nat) → va_W} {host : String} (C : Cx p s m args meth c cc mL rt own D tys tw A) (hNW : NWs s) (hw : Wd D A s ws H locs) (hM : CtrN l y cc2 mL2 rm D tys tw (.ref b :: As) wc wf) (hcal : CalI y cc2 mL2 n) (hlink : va_Nw (.methodLinkNest own idx y host) s)
    (isC isR : List Nat) (wr : va_W) (hndC : va_nd isC = true) (hC : isC.map (fun i => ws[i]?) = wc.map some) (hR : isR.map (fun i => ws[i]?) = wr.map some) (hnd : va_nd isR = true) (hdis : ∀ i ∈ isR, i ∉ isC) (hst : st0 = As.reverse ++ .ref b :: rest) (hn : As.length = n) (hcat : (rest.map fun v => v.category).sum ≤ 8) (hsz : ls.size = mL)
    (hRm : rm.frames + 1 ≤ R.frames ∧ 8 + (mL2 + 11) + rm.locals ≤ R.locals) (hf : cells + rm.cells ≤ R.cells ∧ slots + rm.slots ≤ R.slots) (hdg : decode cc pc = .ok (.invokespecial idx, 3))
    (kk : ∀ (u : Nat → Nat) (H1 : Heap) (locs1 : List Loc), Wd D A s (wr ++ wf u) H1 locs1 → W p l e R s m args below meth c H1 locs1 (cells + rm.cells) (slots + rm.slots) Q (F0 m (pc + 3) ls rest)) : W p l e R s m args below meth c H locs cells slots Q (F0 m pc ls st0) := by
  have hpre := x_pre (As := .ref b :: As) C hw isC hndC hC
  obtain ⟨hx, hb, hml, hown, hts, hK, hlocks, hr, hZ, hA⟩ := id C
  obtain ⟨w1, w3, w4, w5, w6⟩ := hcal
  exact x_runN wr hA hw isC isR hC hR hnd hdis (va_runIN (As := As) (rest := rest) ⟨hx, hb, hml, hown, hts⟩ (hM H.size) ⟨va_cnB n hts (good_in w4) rfl rfl rfl hlink (hts _ w3) w6 hRm, w5, hts _ w1⟩ ⟨preN_blind, fun U hU hW => ⟨rfl, (hpre.2 U hU hW).2, NWs.warm hW hNW⟩⟩ rfl hn hsz hst (lv_room hcat) hdg hf) kk
end XN
