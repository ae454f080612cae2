/-! constructors: they make cells. MI: from the object's own cell the constructor returns and leaves a world with 'post' -/
def AO (U : State) : Prop := va_AO RX0 U ∧ va_AO RX5 U
def rmI (d mc ms : Nat) : Room := { frames := d, cells := mc, slots := ms, locals := 36 * d }
def MI (l : Launch) (D : va_G) (ty : Nat → ClassId) (y : MethodName) (cc : ByteArray) (n d : Nat) (h : Nat) (w : va_W) (post : va_W → Prop) (mc ms : Nat) : Prop :=
  ∀ sz : Nat, Met l y (Cond.code y cc n none :: Wall) (rmI d mc ms) (va_Pc [.ref h] (fun U => U.heap.size = sz ∧ va_P D vwCl w U.heap ∧ KK D ty U ∧ va_D (fun _ => True) w ∧ AO U)) (fun _ st oc t => (oc = .returned none ∧ ∃ w1, post w1 ∧ va_P D vwCl w1 t.heap ∧ va_D (va_A w sz) w1) ∧ va_F (va_A w sz) st t) mc ms (va_A w sz)
theorem mi_ {l : Launch} {D : va_G} {ty : Nat → ClassId} {y : MethodName} {cc : ByteArray} {n d h mc ms : Nat} {w : va_W} {post : va_W → Prop} (hy : plainName y.cls = true) (hin : y.name = "<init>") (hn : 1 ≤ n)
    (body : ∀ (p : Program) (e : Env) (s : State) (m : MethodId) (args : Array Value) (below : List Frame) (meth : Method) (c : Code) (A : Nat → Prop) (Q : State → Prop) (ls : Array Slot), Cx p m c cc n s args y.cls → KK D ty s → (∀ q : Nat, s.heap.size ≤ q → A q) → AO s → meth.name = "<init>" → Wd D A s.heap w s.heap [] →
      (∀ (H : Heap) (locs : List Loc) (pc : Nat) (ls : Array Slot) (w0 : va_W), decode cc pc = .ok (.return_, 1) → Wd D A s.heap w0 H locs → post w0 → W p l e (rmI d mc ms) s m args below meth c H locs mc ms Q (F0 m pc ls [])) →
      lv_has ls n (lv_args 0 [.ref h]) → W p l e (rmI d mc ms) s m args below meth c s.heap [] 0 0 Q (F0 m 0 ls [])) : MI l D ty y cc n d h w post mc ms := by
  intro sz
  refine Met.ofW (cc := cc) (maxL := n) (ret := none) hy rfl ?_
  intro p e s m args below meth c s₁ B hml hv
  obtain ⟨rfl, hsz, hP, hK, hD0, hAO⟩ := hv
  subst hsz
  have hts := atoms_spec (ws := Cond.code y cc n none :: Wall) B.pre
  have hl := lv_entry [.ref h] (n := n) hn
  rw [lg_entry_eq]
  generalize (lg_sl [.ref h] ++ List.replicate (n - (lg_sl [.ref h]).length) Slot.unset).toArray = ls at hl ⊢
  refine body p e s m _ below meth c (va_A w s.heap.size) _ ls ⟨B.exec, B.bytes, hml, findClass_of_methodNamed B.named, fun w h => hts w (List.mem_cons_of_mem _ h)⟩ hK (fun q h => Or.inr h) hAO (hin ▸ (name_of_methodNamed B.named B.method).1) ⟨hP, hD0.self, va_S.rf⟩ ?_ hl
  intro H locs pc ls w0 hdg X hp
  exact W.vret B.exec B.bytes B.returns (fun t ht hW => ⟨⟨rfl, w0, hp, by rw [ht]; exact X.1, X.2.1⟩, X.2.2.F ht⟩) X.2.2.2.2 hdg B.notSynchronized
/-- an object's class, as 'new' needs it -/
def NW (own : String) (index ci N : Nat) (fs : List Value) : Prop := ∃ (C : String) (T : u_T) (ty0 : Nat → FieldType), vwCl[ci]? = some (C, T, N) ∧ (∀ w ∈ u_ws C T N, w ∈ Wall) ∧ (∀ k, k < N → parseFieldDescriptor (T k).2.2.1 = some (ty0 k)) ∧ Cond.classLink own index C ∈ Wall ∧ Cond.instantiable C N ∈ Wall ∧ Cond.initialized C ∈ Wall ∧ ∀ j, j < N → defaultValue (ty0 j) = vp_V fs j
def PLF (own : String) (index ci k : Nat) (t : FieldType) : Prop := ∃ (C : String) (T : u_T) (N : Nat) (ty0 : Nat → FieldType), vwCl[ci]? = some (C, T, N) ∧ (∀ w ∈ u_ws C T N, w ∈ Wall) ∧ (∀ k, k < N → parseFieldDescriptor (T k).2.2.1 = some (ty0 k)) ∧ (∀ a, a < N → ∀ b, b < N → a ≠ b → (T a).2.1 ≠ (T b).2.1) ∧ k < N ∧ Cond.fieldLink own index (T k).1 (T k).2.1 (T k).2.2.1 ∈ Wall ∧ (T k).2.2.2 = true ∧ (T k).1 = own ∧ parseFieldDescriptor (T k).2.2.1 = some t
theorem ty_int {D : va_G} {ty : Nat → ClassId} {s : State} {cA : ClassId} (h : va_K D vwCl (TY ty ++ [(cA, .int)]) s) : cA = ty 0 := by
  have h1 := (h.2 0 (ty 0, .int) rfl).2
  have h2 := (h.2 4 (cA, .int) rfl).2
  exact Option.some.inj (h2.symm.trans h1)
theorem ty_long {D : va_G} {ty : Nat → ClassId} {s : State} {cA : ClassId} (h : va_K D vwCl (TY ty ++ [(cA, .long)]) s) : cA = ty 3 := by
  have h1 := (h.2 3 (ty 3, .long) rfl).2
  have h2 := (h.2 4 (cA, .long) rfl).2
  exact Option.some.inj (h2.symm.trans h1)
theorem ty_car {D : va_G} {ty : Nat → ClassId} {s : State} {cA : ClassId} (h : va_K D vwCl (TY ty ++ [(cA, .object RX0)]) s) : cA = ty 1 := by
  obtain ⟨_, _, _, _, _, h1⟩ := (h.2 1 (ty 1, .object RX0) rfl).2
  obtain ⟨_, _, _, _, _, h2⟩ := (h.2 4 (cA, .object RX0) rfl).2
  exact Option.some.inj (h2.symm.trans h1)
theorem ty_wheel {D : va_G} {ty : Nat → ClassId} {s : State} {cA : ClassId} (h : va_K D vwCl (TY ty ++ [(cA, .object RX5)]) s) : cA = ty 2 := by
  obtain ⟨_, _, _, _, _, h1⟩ := (h.2 2 (ty 2, .object RX5) rfl).2
  obtain ⟨_, _, _, _, _, h2⟩ := (h.2 4 (cA, .object RX5) rfl).2
  exact Option.some.inj (h2.symm.trans h1)
def z0 : F1 := fun _ => 0
def raE (ty : Nat → ClassId) (t n : Nat) (f : Nat → Option Nat) : va_E := .inl (ty t, n, .inr (.inr (.inr (.inr f))))
section Steps5
variable {p : Program} {l : Launch} {e : Env} {R : Room} {s : State} {m : MethodId} {args : Array Value} {below : List Frame} {meth : Method} {c : Code} {H : Heap} {locs : List Loc} {cells slots : Nat} {Q : State → Prop}
variable {cc : ByteArray} {nL pc : Nat} {ls : Array Slot} {rest : List Value} {own : String} {D : va_G} {ty : Nat → ClassId} {A : Nat → Prop} {H0 : Heap} {ws : va_W} {a : Nat}
theorem s_new {index ci N : Nat} {fs : List Value} (C : Cx p m c cc nL s args own) (hK : KK D ty s) (hA : ∀ q : Nat, H0.size ≤ q → A q) (X : Wd D A H0 ws H locs) (hw : NW own index ci N fs) (hcells : cells + 1 ≤ R.cells) (hslots : slots + N ≤ R.slots) (hdg : decode cc pc = .ok (.new index, 3))
    (kk : ∀ (q : Nat) (H1 : Heap), Wd D A H0 (ws ++ [(q, .inr (ci, fs))]) H1 locs → W p l e R s m args below meth c H1 locs (cells + 1) (slots + N) Q (F0 m (pc + 3) ls (.ref q :: rest))) : W p l e R s m args below meth c H locs cells slots Q (F0 m pc ls rest) := by
  obtain ⟨Cn, T, ty0, h1, h2, h3, h4, h5, h6, h7⟩ := hw
  have hts := C.2.2.2.2
  exact va_new C.1 C.2.1 hts h2 ty0 h3 C.2.2.2.1 (hts _ h4) (hts _ h5) (hts _ h6) hK.1 X.1 X.2.1 X.2.2 hA h1 h7 hcells hslots hdg (fun q H1 hP hD hS => kk q H1 ⟨hP, hD, hS⟩)
theorem s_newi {n : Int32} {N : Nat} (C : Cx p m c cc nL s args own) (hK : KK D ty s) (hA : ∀ q : Nat, H0.size ≤ q → A q) (X : Wd D A H0 ws H locs) (hn : n = nI N) (hN : N < 2 ^ 26) (hcells : cells + 1 ≤ R.cells) (hslots : slots + N ≤ R.slots) (hdg : decode cc pc = .ok (.newarray .int, 2))
    (kk : ∀ (q : Nat) (H1 : Heap), Wd D A H0 (ws ++ [(q, arE ty N z0)]) H1 locs → W p l e R s m args below meth c H1 locs (cells + 1) (slots + N) Q (F0 m (pc + 2) ls (.ref q :: rest))) : W p l e R s m args below meth c H locs cells slots Q (F0 m pc ls (.int n :: rest)) := by
  subst hn
  refine va_newa (atype := .int) (a0 := (N, .inl z0)) C.1 C.2.1 (C.2.2.2.2 _ wa_int) rfl hK.1 X.1 X.2.1 X.2.2 hA (fun cA => rfl) (nI_pos (by omega)) (nI_clamp (by omega)) (show N * 4 ≤ 536870912 by omega) hcells hslots hdg (fun q cA H1 hK' hP hD hS => ?_)
  have e := ty_int hK'
  subst e
  exact kk q H1 ⟨hP, hD, hS⟩
theorem s_newl {n : Int32} {N : Nat} (wal : Cond.arrayClass .long ∈ Wall) (C : Cx p m c cc nL s args own) (hK : KK D ty s) (hA : ∀ q : Nat, H0.size ≤ q → A q) (X : Wd D A H0 ws H locs) (hn : n = nI N) (hN : N < 2 ^ 25) (hcells : cells + 1 ≤ R.cells) (hslots : slots + N ≤ R.slots) (hdg : decode cc pc = .ok (.newarray .long, 2))
    (kk : ∀ (q : Nat) (H1 : Heap), Wd D A H0 (ws ++ [(q, .inl (ty 3, N, .inr (.inl (fun _ => 0))))]) H1 locs → W p l e R s m args below meth c H1 locs (cells + 1) (slots + N) Q (F0 m (pc + 2) ls (.ref q :: rest))) : W p l e R s m args below meth c H locs cells slots Q (F0 m pc ls (.int n :: rest)) := by
  subst hn
  refine va_newa (atype := .long) (a0 := (N, .inr (.inl (fun _ => 0)))) C.1 C.2.1 (C.2.2.2.2 _ wal) rfl hK.1 X.1 X.2.1 X.2.2 hA (fun cA => rfl) (nI_pos (by omega)) (nI_clamp (by omega)) (show N * 8 ≤ 536870912 by omega) hcells hslots hdg (fun q cA H1 hK' hP hD hS => ?_)
  have e := ty_long hK'
  subst e
  exact kk q H1 ⟨hP, hD, hS⟩
theorem s_newq {n : Int32} {N t index : Nat} {Cn : String} (C : Cx p m c cc nL s args own) (hK : KK D ty s) (hA : ∀ q : Nat, H0.size ≤ q → A q) (hO : va_AO Cn s) (ht : ∀ cA : ClassId, va_K D vwCl (TY ty ++ [(cA, .object Cn)]) s → cA = ty t) (hl : Cond.classLink own index Cn ∈ Wall) (X : Wd D A H0 ws H locs) (hn : n = nI N) (hN : N < 2 ^ 26) (hcells : cells + 1 ≤ R.cells) (hslots : slots + N ≤ R.slots) (hdg : decode cc pc = .ok (.anewarray index, 3))
    (kk : ∀ (q : Nat) (H1 : Heap), Wd D A H0 (ws ++ [(q, raE ty t N (fun _ => none))]) H1 locs → W p l e R s m args below meth c H1 locs (cells + 1) (slots + N) Q (F0 m (pc + 3) ls (.ref q :: rest))) : W p l e R s m args below meth c H locs cells slots Q (F0 m pc ls (.int n :: rest)) := by
  subst hn
  refine va_newq C.1 C.2.1 C.2.2.2.1 (C.2.2.2.2 _ hl) hO hK.1 X.1 X.2.1 X.2.2 hA (nI_pos (by omega)) (nI_clamp (by omega)) (by omega) hcells hslots hdg (fun q cA H1 hK' hP hD hS => ?_)
  have e := ht cA hK'
  subst e
  exact kk q H1 ⟨hP, hD, hS⟩
theorem s_putF {ci k index b : Nat} {fs : List Value} {Cn : String} (C : Cx p m c cc nL s args own) (hK : KK D ty s) (hin : meth.name = "<init>") (X : Wd D A H0 ws H locs) (q0 : Nat) (he : ws[q0]? = some (a, .inr (ci, fs))) (hf : PLF own index ci k (.object Cn)) (hl : k < fs.length) (hdg : decode cc pc = .ok (.putfield index, 3))
    (kk : ∀ (H1 : Heap) (locs1 : List Loc), Wd D A H0 (ws.set q0 (a, .inr (ci, fs.set k (.ref b)))) H1 locs1 → W p l e R s m args below meth c H1 locs1 cells slots Q (F0 m (pc + 3) ls rest)) : W p l e R s m args below meth c H locs cells slots Q (F0 m pc ls (.ref b :: .ref a :: rest)) := by
  obtain ⟨Cl, T, N, ty0, h1, h2, h3, h4, h5, h6, h7, h8, h9⟩ := hf
  exact va_putF (D := D) (ci := ci) (v := .ref b) (C := Cl) (T := T) (N := N) C.1 C.2.1 C.2.2.2.2 h2 ty0 h3 h4 C.2.2.2.1 hK.1 X.1 X.2.1 X.2.2 q0 he h1 k h5 (C.2.2.2.2 _ h6) (fun _ h9 => h9) h7 hin h8 h9 rfl rfl hl hdg (fun H1 locs1 hP hD hS => kk H1 locs1 ⟨hP, hD, hS⟩)
theorem s_putA {ci k index b : Nat} {fs : List Value} {t : FieldType} (C : Cx p m c cc nL s args own) (hK : KK D ty s) (hin : meth.name = "<init>") (X : Wd D A H0 ws H locs) (q0 : Nat) (he : ws[q0]? = some (a, .inr (ci, fs))) (hf : PLF own index ci k (.array t)) (hl : k < fs.length) (hdg : decode cc pc = .ok (.putfield index, 3))
    (kk : ∀ (H1 : Heap) (locs1 : List Loc), Wd D A H0 (ws.set q0 (a, .inr (ci, fs.set k (.ref b)))) H1 locs1 → W p l e R s m args below meth c H1 locs1 cells slots Q (F0 m (pc + 3) ls rest)) : W p l e R s m args below meth c H locs cells slots Q (F0 m pc ls (.ref b :: .ref a :: rest)) := by
  obtain ⟨Cl, T, N, ty0, h1, h2, h3, h4, h5, h6, h7, h8, h9⟩ := hf
  exact va_putF (D := D) (ci := ci) (v := .ref b) (C := Cl) (T := T) (N := N) C.1 C.2.1 C.2.2.2.2 h2 ty0 h3 h4 C.2.2.2.1 hK.1 X.1 X.2.1 X.2.2 q0 he h1 k h5 (C.2.2.2.2 _ h6) (fun _ h9 => h9) h7 hin h8 h9 rfl rfl hl hdg (fun H1 locs1 hP hD hS => kk H1 locs1 ⟨hP, hD, hS⟩)
theorem s_obj {idx : Nat} {v : Nat} (C : Cx p m c cc nL s args own) (hls : ls.size = nL) (hl : Cond.methodLink own idx objectInit ∈ Wall) (hfr : 1 ≤ R.frames) (hlo : (rest.map fun v => v.category).sum + 12 ≤ R.locals) (hdg : decode cc pc = .ok (.invokespecial idx, 3))
    (kk : W p l e R s m args below meth c H locs cells slots Q (F0 m (pc + 3) ls rest)) : W p l e R s m args below meth c H locs cells slots Q (F0 m pc ls (.ref v :: rest)) :=
  W.objInit C.1 C.2.1 C.2.2.2.1 (C.2.2.2.2 _ hl) (C.2.2.2.2 _ wn_objectInit) (C.2.2.2.2 _ wc_objectInit) rfl (hls.trans C.2.2.1.symm) rfl hdg hfr (show 2 * 0 + (rest.map fun v => v.category).sum + 12 ≤ R.locals by omega) kk
theorem s_aastG {t n j v ci : Nat} {Cn : vw_C} {f : Nat → Option Nat} {vs : List Value} {i : Int32} (C : Cx p m c cc nL s args own) (hK : KK D ty s) (X : Wd D A H0 ws H locs) (q0 : Nat) (he : ws[q0]? = some (a, raE ty t n f)) (ht : (TY ty)[t]? = some (ty t, .object Cn.1)) (qk : Nat) (hv : ws[qk]? = some (v, .inr (ci, vs))) (hc : vwCl[ci]? = some Cn) (hi : i = nI j) (hj : j < n) (hn : n < 2 ^ 31) (hdg : decode cc pc = .ok (.aastore, 1))
    (kk : ∀ (H1 : Heap) (locs1 : List Loc), Wd D A H0 (ws.set q0 (a, raE ty t n (va_up f j (some v)))) H1 locs1 → W p l e R s m args below meth c H1 locs1 cells slots Q (F0 m (pc + 1) ls rest)) : W p l e R s m args below meth c H locs cells slots Q (F0 m pc ls (.ref v :: .int i :: .ref a :: rest)) := by
  subst hi
  refine va_astq C.1 C.2.1 hK.1 X.1 X.2.1 X.2.2 q0 t qk ci he ht hv hc (vp_in_nI hj (by omega)) hdg (fun H1 locs1 hP hD hS => kk H1 locs1 ?_)
  rw [nI_clamp (by omega)] at hP hD
  exact ⟨hP, hD, hS⟩
theorem Wd.row {t n : Nat} {f g : Nat → Option Nat} (X : Wd D A H0 ws H locs) (q0 : Nat) (he : ws[q0]? = some (a, raE ty t n f)) (hs : ∀ k, k < n → g k = f k) : Wd D A H0 (ws.set q0 (a, raE ty t n g)) H locs := by
  have hl := (List.getElem?_eq_some_iff.mp he).1
  refine ⟨fun k q hk => ?_, X.2.1.fst ?_, X.2.2⟩
  · by_cases hq : q0 = k
    · subst hq
      rw [List.getElem?_set_self hl] at hk
      cases hk
      have h1 : H[a]? = some (vp_cell (ty t) (n, .inr (.inr (.inr (.inr f))))) := X.1 q0 _ he
      show H[a]? = some (vp_cell (ty t) (n, .inr (.inr (.inr (.inr g)))))
      rw [h1, vp_cell_q, vp_cell_q]
      exact congrArg some (arrV_congr (fun k hk => by rw [hs k hk]))
    · rw [List.getElem?_set_ne hq] at hk
      exact X.1 k q hk
  · rw [List.map_set]
    apply List.ext_getElem?
    intro k
    by_cases hk : q0 = k
    · subst hk
      rw [List.getElem?_set_self (by simpa using hl), List.getElem?_map, he]; rfl
    · rw [List.getElem?_set_ne hk]
/-- a constructor's call: what it makes stands behind the rest -/
theorem s_cI {y : MethodName} {cy : ByteArray} {n' d index b mc ms : Nat} {wc wr : va_W} {post : va_W → Prop} (C : Cx p m c cc nL s args own) (hK : KK D ty s) (hA : ∀ q : Nat, H0.size ≤ q → A q) (hO : AO s) (X : Wd D A H0 ws H locs)
    (hM : MI l D ty y cy n' d b wc post mc ms) (is js : List Nat) (hC0 : pickP ws is wc) (hR0 : pickP ws js wr) (hn : va_nd is = true) (hnj : va_nd js = true) (hdis : ∀ i ∈ js, i ∉ is) (g1 : Cond.instanceMethod y ∈ Wall) (g3 : Cond.initialized y.cls ∈ Wall) (g4 : Cond.code y cy n' none ∈ Wall) (g5 : y.cls ≠ "java/lang/invoke/MethodHandle" ∧ y.cls ≠ "java/lang/invoke/VarHandle" ∧ (parseMethodDescriptor y.desc).map (fun d => d.parameters.length) = some 0) (hnm : y.name = "<init>") (hl : Cond.methodLink own index y ∈ Wall) (hR : d + 1 ≤ R.frames ∧ 8 + (n' + 11) + 36 * d ≤ R.locals) (hcs : cells + mc ≤ R.cells ∧ slots + ms ≤ R.slots) (hls : ls.size = nL) (hrest : (rest.map fun v => v.category).sum ≤ 8) (hdg : decode cc pc = .ok (.invokespecial index, 3))
    (kk : ∀ (w1 : va_W) (H1 : Heap) (locs1 : List Loc), post w1 → Wd D A H0 (wr ++ w1) H1 locs1 → W p l e R s m args below meth c H1 locs1 (cells + mc) (slots + ms) Q (F0 m (pc + 3) ls rest)) : W p l e R s m args below meth c H locs cells slots Q (F0 m pc ls (.ref b :: rest)) := by
  have hts := C.2.2.2.2
  have hC := hC0.map
  have hpre : PreS s H (va_Pc [.ref b] (fun U => U.heap.size = H.size ∧ va_P D vwCl wc U.heap ∧ KK D ty U ∧ va_D (fun _ => True) wc ∧ AO U)) [.ref b] := by
    refine ⟨fun a U g mk q => ?_, fun U hU hW => ?_⟩
    · obtain ⟨q0, q1, qP, qK, qD, qO⟩ := q
      exact ⟨q0, q1, qP, qK.calling, qD, va_AO.moved (u := U) (Vm.Alike.refl U.vm) qO.1, va_AO.moved (u := U) (Vm.Alike.refl U.vm) qO.2⟩
    · refine ⟨rfl, by rw [hU], ?_, hK.warm hW, (X.2.1.sub is hn hC).weaken (fun _ _ _ _ => trivial), va_AO.moved hW.alike hO.1, va_AO.moved hW.alike hO.2⟩
      rw [hU]
      intro k q hk
      obtain ⟨i, i1, i2⟩ := pick_at hC hk
      exact X.1 i q i2
  have hr := va_runI (p := p) (e := e) (below := below) (meth := meth) (locs := locs) (As := []) (rest := rest) (g := F0 m pc ls (.ref b :: rest)) C (hM H.size) ⟨callB_of 0 hts (wall_good (fun _ h => h) g4) rfl rfl rfl (hts _ g3) (hts _ hl) g5 hR, hnm, hts _ g1⟩ hpre rfl rfl hls rfl (lv_room hrest) hdg hcs
  intro T hT Y
  obtain ⟨v, st₀, t, T', L, h0, Y', hL, e1, e2, ⟨⟨hv, w1, hp1, hP1, hD1⟩, hz, hk⟩, st⟩ := hr T hT Y
  cases hv
  rw [h0] at hz hk
  have hfree : ∀ q, va_A wc H.size q → A q := va_free X.2.1 X.2.2 hA is hC
  have hS1 : va_S A H0 T'.heap (locs ++ L) := ⟨Nat.le_trans X.2.2.1 (by rw [e1]; exact hz), fun q h1 h2 => by rw [e1, hk q (Nat.lt_of_lt_of_le h1 X.2.2.1) (fun z => h2 (hfree q z))]; exact X.2.2.2.1 q h1 h2, fun q hq => by
      rcases List.mem_append.mp hq with h | h
      · exact X.2.2.2.2 q h
      · exact hfree _ (hL q h)⟩
  obtain ⟨hPj, hDj⟩ := va_join (H1 := T'.heap) X.1 X.2.1 is js hC hR0.map hnj hdis (fun q h1 h2 => by rw [e1]; exact hk q h1 h2) hfree (by rw [e1]; exact hP1) hD1
  obtain ⟨t2, a1, b1⟩ := kk w1 T'.heap (locs ++ L) hp1 ⟨hPj, hDj, hS1⟩ T' rfl Y'
  exact ⟨t2, st t2 a1, b1⟩
end Steps5
