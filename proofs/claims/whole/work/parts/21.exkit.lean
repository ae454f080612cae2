/-! exceptions: what a throw needs of the state beside the words (EX, ZZ); a method that throws (MX); a wrapper of the law's, which catches (MW) -/
def exN : List String := ["java/lang/RuntimeException", "java/lang/Exception"]
def iaeE : String := "java/lang/IllegalArgumentException"
def iseE : String := "java/lang/IllegalStateException"
def iobE : String := "java/lang/IndexOutOfBoundsException"
def strL : List (Nat × String) := [(34, "speed is out of range"), (57, "an argument is out of range"), (70, "the road is full"), (80, "demand is out of range"), (95, "the plan is full"), (109, "no such wheel"), (135, "ticks is out of range"), (146, "speed, surfaces or demand is out of range"), (151, "what is out of range"), (167, "no such segment"), (179, "no such event"), (182, "nothing to undo")]
def nwD : List MethodName := [Bundle.initS "java/lang/RuntimeException", Bundle.initS "java/lang/Exception", Bundle.initS Bundle.tN]
def nwC : List (String × String) := [(iaeE, iaeE), (iseE, iseE), (iobE, iobE)]
def nw2 : List Cond := nwD.map Cond.declares ++ nwC.map (fun q => Cond.castable q.1 q.2)
def EX (sa : Nat → Nat) (U : State) : Prop := (∀ x ∈ nwD, va_Nw (.declares x) U) ∧ (∀ q ∈ nwC, va_Nw (.castable q.1 q.2) U) ∧ (∀ q ∈ strL, vk_R RX6 q.1 q.2 (sa q.1) U) ∧ va_Nc iseE iaeE U ∧ va_Nc iaeE iobE U
theorem EX.warm {sa : Nat → Nat} {s U : State} (hW : s.WarmedH U.vm) (h : EX sa s) : EX sa U :=
  ⟨fun x hx => va_Nw.warmD hW (h.1 x hx), fun q hq => va_Nw.warmC hW (h.2.1 q hq), fun q hq => vk_R.warm hW (h.2.2.1 q hq), va_Nc.moved hW.alike h.2.2.2.1, va_Nc.moved hW.alike h.2.2.2.2⟩
theorem EX.calling {sa : Nat → Nat} {U : State} {g : JFrame} {mk : MethodId} {a : Array Value} (h : EX sa U) : EX sa (U.calling g mk a) :=
  ⟨fun x hx => va_Nw.same rfl rfl (h.1 x hx), fun q hq => va_Nw.same rfl rfl (h.2.1 q hq), fun q hq => vk_R.same rfl (h.2.2.1 q hq), va_Nc.moved (u := U) (Vm.Alike.refl U.vm) h.2.2.2.1, va_Nc.moved (u := U) (Vm.Alike.refl U.vm) h.2.2.2.2⟩
def ZZ (A : Nat → Prop) (U : State) (H : Heap) : Prop := vx_Zq Bundle.tN "UNASSIGNED_STACK" Bundle.steD A U H ∧ vx_Zq Bundle.tN "SUPPRESSED_SENTINEL" Bundle.listD A U H
theorem ZZ.moved {A : Nat → Prop} {u U : State} {H : Heap} (hvm : u.vm.Alike U.vm) (h : ZZ A u H) : ZZ A U H := ⟨vx_Zq.moved hvm h.1, vx_Zq.moved hvm h.2⟩
theorem ZZ.kept {A : Nat → Prop} {U : State} {H H1 : Heap} (h : ZZ A U H) (hq : ∀ a : Nat, a < H.size → ¬ A a → H1[a]? = H[a]?) : ZZ A U H1 := ⟨h.1.kept hq, h.2.kept hq⟩
theorem ZZ.narrow {A B : Nat → Prop} {U : State} {H : Heap} (h : ZZ A U H) (hAB : ∀ q, B q → A q) : ZZ B U H := ⟨h.1.narrow hAB, h.2.narrow hAB⟩
def ExF (E : String) (ik ic : Nat) : Prop := Bundle.fit E = true ∧ Cond.classLink RX6 ik E ∈ Wall ∧ Cond.initialized E ∈ Wall ∧ (∀ w ∈ vx_atS RX6 ic E exN, w ∈ Wall ∨ w ∈ nw2) ∧ (∀ w ∈ Cond.classLink RX6 ik E :: Cond.initialized E :: vx_atS RX6 ic E exN, vx_ot w = true)
theorem ExF_of {E : String} {ik ic : Nat} (h1 : Bundle.fit E = true) (h2 : (decide (Cond.classLink RX6 ik E ∈ lw_tbl) && decide (Cond.initialized E ∈ lw_tbl)) = true) (h3 : (vx_atS RX6 ic E exN).all (fun w => (decide (w ∈ lw_tbl) && goodWord w) || decide (w ∈ nw2)) = true) (h4 : (Cond.classLink RX6 ik E :: Cond.initialized E :: vx_atS RX6 ic E exN).all vx_ot = true) (h5 : goodWord (Cond.classLink RX6 ik E) = true ∧ goodWord (Cond.initialized E) = true) : ExF E ik ic := by
  simp only [Bool.and_eq_true, decide_eq_true_eq] at h2
  refine ⟨h1, wall_of h2.1 h5.1, wall_of h2.2 h5.2, fun w hw => ?_, fun w hw => List.all_eq_true.mp h4 w hw⟩
  have h := List.all_eq_true.mp h3 w hw
  simp only [Bool.or_eq_true, Bool.and_eq_true, decide_eq_true_eq] at h
  rcases h with h | h
  · exact Or.inl (wall_of h.1 h.2)
  · exact Or.inr h
set_option maxRecDepth 100000 in
theorem ex_iae : ExF iaeE 32 36 := ExF_of (by decide +kernel) (by decide +kernel) (by decide +kernel) (by decide +kernel) ⟨by decide +kernel, by decide +kernel⟩
set_option maxRecDepth 100000 in
theorem ex_ise : ExF iseE 68 72 := ExF_of (by decide +kernel) (by decide +kernel) (by decide +kernel) (by decide +kernel) ⟨by decide +kernel, by decide +kernel⟩
set_option maxRecDepth 100000 in
theorem ex_iob : ExF iobE 107 111 := ExF_of (by decide +kernel) (by decide +kernel) (by decide +kernel) (by decide +kernel) ⟨by decide +kernel, by decide +kernel⟩
theorem nw2_at {sa : Nat → Nat} {s : State} {args : Array Value} (h : EX sa s) {w : Cond} (hw : w ∈ nw2) : w.before args s = true := by
  unfold nw2 at hw
  rcases List.mem_append.mp hw with h1 | h1
  · obtain ⟨x, hx, rfl⟩ := List.mem_map.mp h1
    exact va_Nw.use rfl (h.1 x hx)
  · obtain ⟨q, hq, rfl⟩ := List.mem_map.mp h1
    exact va_Nw.use rfl (h.2.1 q hq)
def rmX : Room := { frames := 8, cells := 1, slots := 6, locals := 36 * 8 }
def PX (D : va_G) (ty : Nat → ClassId) (As : List Value) (w : va_W) (sz : Nat) (sa : Nat → Nat) : Array Value → State → Prop := va_Pc As (fun U => U.heap.size = sz ∧ va_P D vwCl w U.heap ∧ KK D ty U ∧ va_D (fun _ => True) w ∧ ZZ (va_A w sz) U U.heap ∧ EX sa U)
def MX (l : Launch) (D : va_G) (ty : Nat → ClassId) (y : MethodName) (cc : ByteArray) (n : Nat) (ret : Option FieldType) (As : List Value) (w : va_W) (E : String) : Prop :=
  ∀ (sz : Nat) (sa : Nat → Nat), vx_Met l y (Cond.code y cc n ret :: Wall) rmX (PX D ty As w sz sa) (fun _ _ _ _ => False) (fun E' st t => E' = E ∧ va_P D vwCl w t.heap ∧ va_F (va_A w sz) st t) 1 6 (va_A w sz)
theorem mx_ {l : Launch} {D : va_G} {ty : Nat → ClassId} {y : MethodName} {cc : ByteArray} {n : Nat} {ret : Option FieldType} {As : List Value} {w : va_W} {E : String} {ik ic : Nat} (hst : l.stackTraces = false) (hF : ExF E ik ic) (hy : plainName y.cls = true) (hcl : y.cls = RX6) (hn : (lg_sl As).length ≤ n)
    (body : ∀ (p : Program) (e : Env) (s : State) (m : MethodId) (args : Array Value) (below : List Frame) (meth : Method) (c : Code) (A : Nat → Prop) (Q : State → Prop) (ls : Array Slot), Cx p m c cc n s args y.cls → KK D ty s → (∀ q : Nat, s.heap.size ≤ q → A q) → Wd D A s.heap w s.heap [] →
      (∀ (H : Heap) (locs : List Loc) (pc : Nat) (ls : Array Slot) (k is : Nat) (text : String), strL[k]? = some (is, text) → decode cc pc = .ok (.new ik, 3) → decode cc (pc + 3) = .ok (.dup, 1) → decode cc (pc + 4) = .ok (.ldc is, 2) → decode cc (pc + 6) = .ok (.invokespecial ic, 3) → decode cc (pc + 9) = .ok (.athrow, 1) → ls.size = n → Wd D A s.heap w H locs → W p l e rmX s m args below meth c H locs 0 0 Q (F0 m pc ls [])) →
      lv_has ls n (lv_args 0 As) → W p l e rmX s m args below meth c s.heap [] 0 0 Q (F0 m 0 ls [])) : MX l D ty y cc n ret As w E := by
  intro sz sa
  refine vx_ofW (cc := cc) (maxL := n) (ret := ret) hy rfl ?_
  intro p e s m args below meth c s₁ B hml hout hv
  obtain ⟨rfl, hsz, hP, hK, hD0, hZ, hE⟩ := hv
  subst hsz
  have hts := atoms_spec (ws := Cond.code y cc n ret :: Wall) B.pre
  have hl := lv_entry As (n := n) hn
  rw [lg_entry_eq]
  generalize (lg_sl As ++ List.replicate (n - (lg_sl As).length) Slot.unset).toArray = ls at hl ⊢
  have hown : s.vm.findClass y.cls = some m.cls := findClass_of_methodNamed B.named
  refine body p e s m _ below meth c (va_A w s.heap.size) _ ls ⟨B.exec, B.bytes, hml, hown, fun w h => hts w (List.mem_cons_of_mem _ h)⟩ hK (fun q h => Or.inr h) ⟨hP, hD0.self, va_S.rf⟩ ?_ hl
  intro H locs pc ls k is text hk d0 d3 d4 d6 d9 hls X
  obtain ⟨f1, f2, f3, f4, f5⟩ := hF
  refine vx_throwS (own := RX6) (names := exN) B.exec B.bytes hst (by rw [← hcl]; exact hown) f1 (by decide +kernel) (hts _ (List.mem_cons_of_mem _ f2)) (hts _ (List.mem_cons_of_mem _ f3)) (hE.2.2.1 _ (List.mem_of_getElem? hk)) (fun w hw => ?_) f5 hZ.1 hZ.2 X.2.2 (hls.trans hml.symm) d0 d3 d4 d6 d9 (fun x hx => (hout x hx).elim) (Nat.le_of_ble_eq_true rfl) (Nat.le_of_ble_eq_true rfl) (Nat.le_of_ble_eq_true rfl) (Nat.le_of_ble_eq_true rfl) B.notSynchronized ?_ X.2.2.2.2 (Nat.le_of_ble_eq_true rfl) (Nat.le_of_ble_eq_true rfl)
  · rcases f4 w hw with h | h
    · exact hts _ (List.mem_cons_of_mem _ h)
    · exact nw2_at hE h
  · intro t hvm hz hq
    refine ⟨rfl, X.1.kept (fun k q hk => hq _ (X.1 k q hk).lt), Nat.le_trans X.2.2.1 hz, fun q h1 h2 => ?_⟩
    rw [hq q (Nat.lt_of_lt_of_le h1 X.2.2.1)]; exact X.2.2.2.1 q h1 h2
def rmW : Room := { frames := 9, cells := 1, slots := 6, locals := 36 * 9 }
def MW (l : Launch) (D : va_G) (ty : Nat → ClassId) (y : MethodName) (cc : ByteArray) (n : Nat) (hh : List (Nat × Nat × Nat × Nat)) (As : List Value) (w : va_W) (r : Int32) (w' : va_W) : Prop :=
  ∀ (sz : Nat) (sa : Nat → Nat), vx_Met l y (Cond.codeWith y cc n (some .int) hh :: Wall) rmW (PX D ty As w sz sa) (fun _ st oc t => (oc = .returned (some (.int r)) ∧ va_P D vwCl w' t.heap) ∧ va_F (va_A w sz) st t) (fun _ _ _ => False) 1 6 (va_A w sz)
theorem mw_ {l : Launch} {D : va_G} {ty : Nat → ClassId} {y : MethodName} {cc : ByteArray} {n : Nat} {hh : List (Nat × Nat × Nat × Nat)} {As : List Value} {w w' : va_W} {r : Int32} (hy : plainName y.cls = true) (hn : (lg_sl As).length ≤ n)
    (body : ∀ (p : Program) (e : Env) (s : State) (m : MethodId) (args : Array Value) (below : List Frame) (meth : Method) (c : Code) (A : Nat → Prop) (Q : State → Prop) (ls : Array Slot) (sa : Nat → Nat), Cx p m c cc n s args y.cls → KK D ty s → (∀ q : Nat, s.heap.size ≤ q → A q) → c.exceptionTable.toList = tableOf hh → ZZ A s s.heap → EX sa s → Wd D A s.heap w s.heap [] →
      (∀ (H : Heap) (locs : List Loc) (pc : Nat) (ls : Array Slot) (w0 : va_W) (r0 : Int32), decode cc pc = .ok (.ireturn, 1) → Wd D A s.heap w0 H locs → w0 = w' → r0 = r → W p l e rmW s m args below meth c H locs 1 6 Q (F0 m pc ls [.int r0])) →
      lv_has ls n (lv_args 0 As) → W p l e rmW s m args below meth c s.heap [] 0 0 Q (F0 m 0 ls [])) : MW l D ty y cc n hh As w r w' := by
  intro sz sa
  refine vx_ofWH (cc := cc) (maxL := n) (ret := some .int) (hh := hh) hy rfl ?_
  intro p e s m args below meth c s₁ B hml hv
  obtain ⟨rfl, hsz, hP, hK, hD0, hZ, hE⟩ := hv
  subst hsz
  have hts := atoms_spec (ws := Cond.codeWith y cc n (some .int) hh :: Wall) B.pre
  have hl := lv_entry As (n := n) hn
  rw [lg_entry_eq]
  generalize (lg_sl As ++ List.replicate (n - (lg_sl As).length) Slot.unset).toArray = ls at hl ⊢
  refine body p e s m _ below meth c (va_A w s.heap.size) _ ls sa ⟨B.exec, B.bytes, hml, findClass_of_methodNamed B.named, fun w h => hts w (List.mem_cons_of_mem _ h)⟩ hK (fun q h => Or.inr h) (vx_table (x := y) B (hts _ List.mem_cons_self)) hZ hE ⟨hP, hD0.self, va_S.rf⟩ ?_ hl
  intro H locs pc ls w0 r0 hdg X ew er
  subst ew; subst er
  exact vx_ret (W.iret B.exec B.bytes B.returns (fun t ht hW => ⟨⟨rfl, by rw [ht]; exact X.1⟩, X.2.2.F ht⟩) X.2.2.2.2 hdg B.notSynchronized)
section Steps4
variable {p : Program} {l : Launch} {e : Env} {R : Room} {s : State} {m : MethodId} {args : Array Value} {below : List Frame} {meth : Method} {c : Code} {H : Heap} {locs : List Loc} {cells slots : Nat} {Q : State → Prop}
variable {cc : ByteArray} {nL pc : Nat} {ls : Array Slot} {rest : List Value} {own : String} {D : va_G} {ty : Nat → ClassId} {A : Nat → Prop} {ws : va_W} {a : Nat}
theorem px_pre {wc : va_W} {is : List Nat} {As : List Value} {sa : Nat → Nat} (hK : KK D ty s) (hA : ∀ q : Nat, s.heap.size ≤ q → A q) (hZ : ZZ A s s.heap) (hE : EX sa s) (X : Wd D A s.heap ws H locs) (hC : is.map (fun i => ws[i]?) = wc.map some) (hn : va_nd is = true) : FrameBlind (PX D ty As wc H.size sa) ∧ ∀ U : State, U.heap = H → s.WarmedH U.vm → PX D ty As wc H.size sa As.toArray U := by
  refine ⟨fun a U g mk q => ?_, fun U hU hW => ?_⟩
  · obtain ⟨q0, q1, qP, qK, qD, qZ, qE⟩ := q
    exact ⟨q0, q1, qP, qK.calling, qD, qZ.moved (u := U) (Vm.Alike.refl U.vm), qE.calling⟩
  · have hfree : ∀ q, va_A wc H.size q → A q := va_free X.2.1 X.2.2 hA is hC
    refine ⟨rfl, by rw [hU], ?_, hK.warm hW, (X.2.1.sub is hn hC).weaken (fun _ _ _ _ => trivial), ?_, hE.warm hW⟩
    · rw [hU]
      intro k q hk
      obtain ⟨i, i1, i2⟩ := pick_at hC hk
      exact X.1 i q i2
    · rw [hU]
      exact ((hZ.kept X.2.2.2.1).moved hW.alike).narrow hfree
/-- a call by a receiver that throws -/
theorem s_xV {y : MethodName} {cy : ByteArray} {n' index b ci q0 : Nat} {ret : Option FieldType} {As : List Value} {wc : va_W} {fs : List Value} {Cn : vw_C} {st0 : List Value} {E : String} {sa : Nat → Nat} (C : Cx p m c cc nL s args own) (hK : KK D ty s) (hA : ∀ q : Nat, s.heap.size ≤ q → A q) (hZ : ZZ A s s.heap) (hE : EX sa s) (X : Wd D A s.heap ws H locs)
    (hM : MX l D ty y cy n' ret (.ref b :: As) wc E) (is : List Nat) (hC0 : pickP ws is wc) (hn : va_nd is = true) (hL : ML y cy n' ret As.length) (hl : Cond.methodLink own index y ∈ Wall) (hq : wc[q0]? = some (b, .inr (ci, fs))) (hcl : vwCl[ci]? = some Cn) (hcn : Cn.1 = y.cls) (hR : 8 + 1 ≤ R.frames ∧ 8 + (n' + 11) + 36 * 8 ≤ R.locals) (hcs : cells + 1 ≤ R.cells ∧ slots + 6 ≤ R.slots) (hls : ls.size = nL) (hst : st0 = As.reverse ++ .ref b :: rest) (hrest : (rest.map fun v => v.category).sum ≤ 8) (hdg : decode cc pc = .ok (.invokevirtual index, 3))
    (kx : ∀ (ce : Cell) (q9 : Addr) (H1 : Heap) (locs1 : List Loc), Wd D A s.heap ws H1 locs1 → H1[q9]? = some ce → ce.vm = .none → s.vm.findClass E = some ce.cls → vx_W p l e R s m args below meth c H1 locs1 (cells + 1) (slots + 6) Q (F0 m pc ls rest) q9) : W p l e R s m args below meth c H locs cells slots Q (F0 m pc ls st0) := by
  obtain ⟨g1, g2, g3, g4, g5, g6, g7⟩ := hL
  have hts := C.2.2.2.2
  have hC := hC0.map
  obtain ⟨pb, pu⟩ := px_pre (As := .ref b :: As) hK hA hZ hE X hC hn
  obtain ⟨i0, j1, j2⟩ := pick_at hC hq
  have hrecv := va_recv hK.1 X.1 hcl j2
  rw [hcn] at hrecv
  have hr := vx_runV (p := p) (e := e) (below := below) (meth := meth) (locs := locs) (As := As) (rest := rest) (g := F0 m pc ls st0) C (hM H.size sa) ⟨callB_of As.length hts (wall_good (fun _ h => h) g4) rfl rfl rfl (hts _ g3) (hts _ hl) ⟨g5, g6, g7⟩ hR, hts _ g1, hts _ g2⟩ ⟨pb, hrecv, pu⟩ rfl rfl hls hst (lv_room hrest) hdg hcs
  intro T hT Y
  rcases hr T hT Y with ⟨v, st₀, t, T', L, h0, X', hL', e1, e2, hq', st⟩ | ⟨q, st₀, t, T', L, E', ce, h0, Y', hL, e1, e2, ⟨rfl, hP1, hz, hk⟩, hce, hcv, hcl', st⟩
  · exact hq'.elim
  · rw [h0] at hz hk
    have hfree : ∀ q, va_A wc H.size q → A q := va_free X.2.1 X.2.2 hA is hC
    have hS1 : va_S A s.heap T'.heap (locs ++ L) := ⟨Nat.le_trans X.2.2.1 (by rw [e1]; exact hz), fun q h1 h2 => by rw [e1, hk q (Nat.lt_of_lt_of_le h1 X.2.2.1) (fun z => h2 (hfree q z))]; exact X.2.2.2.1 q h1 h2, fun q hq => by
      rcases List.mem_append.mp hq with h | h
      · exact X.2.2.2.2 q h
      · exact hfree _ (hL q h)⟩
    obtain ⟨t2, a1, b1⟩ := kx ce q T'.heap (locs ++ L) (X.call0 hC (by rw [e1]; exact hP1) (fun q h1 h2 => by rw [e1]; exact hk q h1 h2) hS1) (by rw [e1]; exact hce) hcv hcl' T' rfl Y'
    exact ⟨t2, st.trans a1, b1⟩
theorem s_last {n : Nat} {f : Nat → Int64} {i : Int32} {x : Int64} {H0 : Heap} (C : Cx p m c cc nL s args own) (hK : KK D ty s) (X : Wd D A H0 ws H locs) (q0 j : Nat) (he : ws[q0]? = some (a, .inl (ty 3, n, .inr (.inl f)))) (hi : i = nI j) (hj : j < n) (hn : n < 2 ^ 31) (hdg : decode cc pc = .ok (.lastore, 1))
    (kk : ∀ (H1 : Heap) (locs1 : List Loc), Wd D A H0 (ws.set q0 (a, .inl (ty 3, n, .inr (.inl (vp_updL f j x))))) H1 locs1 → W p l e R s m args below meth c H1 locs1 cells slots Q (F0 m (pc + 1) ls rest)) : W p l e R s m args below meth c H locs cells slots Q (F0 m pc ls (.long x :: .int i :: .ref a :: rest)) := by
  subst hi
  refine va_last C.1 C.2.1 hK.1 X.1 X.2.1 X.2.2 q0 3 he rfl (vp_in_nI hj (by omega)) hdg (fun H1 locs1 hP hD hS => kk H1 locs1 ?_)
  rw [nI_clamp (by omega)] at hP hD
  exact ⟨hP, hD, hS⟩
theorem s_lald {n : Nat} {f : Nat → Int64} {i : Int32} {H0 : Heap} (C : Cx p m c cc nL s args own) (hK : KK D ty s) (X : Wd D A H0 ws H locs) (q0 j : Nat) (he : ws[q0]? = some (a, .inl (ty 3, n, .inr (.inl f)))) (hi : i = nI j) (hj : j < n) (hn : n < 2 ^ 31) (hdg : decode cc pc = .ok (.laload, 1))
    (kk : W p l e R s m args below meth c H locs cells slots Q (F0 m (pc + 1) ls (.long (f j) :: rest))) : W p l e R s m args below meth c H locs cells slots Q (F0 m pc ls (.int i :: .ref a :: rest)) := by
  subst hi
  refine va_lald C.1 C.2.1 hK.1 X.1 q0 3 he rfl (vp_in_nI hj (by omega)) hdg ?_
  rw [nI_clamp (by omega)]; exact kk
end Steps4
