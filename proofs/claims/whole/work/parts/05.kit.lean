/-! MY KIT: one list of words for all methods; a world with its frame in one word (Wd); a method as a triple over worlds (MC): from the arguments As and the world w it returns r and leaves w'. -/
def Wall : List Cond := lw_tbl.filter goodWord
theorem wall_of {w : Cond} (h : w ∈ lw_tbl) (g : goodWord w = true) : w ∈ Wall := List.mem_filter.mpr ⟨h, g⟩
theorem wall_good {big : List Cond} (hb : ∀ w ∈ Wall, w ∈ big) {w0 : Cond} (h0 : w0 ∈ Wall) : GoodIn big (w0 :: Wall) := by
  intro w hw
  rcases List.mem_cons.mp hw with rfl | h
  · exact ⟨hb _ h0, good_of_word (List.mem_filter.mp h0).2⟩
  · exact ⟨hb _ h, good_of_word (List.mem_filter.mp h).2⟩
def nestW : List Cond := [.methodLinkNest RX0 123 yX6_gripFor RX6, .methodLinkNest RX0 142 yX6_asNumber RX6, .methodLinkNest RX0 184 yX6_mix RX6, .methodLinkNest RX3 50 yX6_mix RX6, .methodLinkNest RX4 38 yX6_mix RX6, .methodLinkNest RX2 36 yX6_mix RX6]
abbrev TY (ty : Nat → ClassId) : List (ClassId × FieldType) := [(ty 0, .int), (ty 1, .object RX0), (ty 2, .object RX5), (ty 3, .long)]
def KK (D : va_G) (ty : Nat → ClassId) (U : State) : Prop := va_K D vwCl (TY ty) U ∧ ∀ w ∈ nestW, va_Nw w U
theorem KK.warm {D : va_G} {ty : Nat → ClassId} {s U : State} (hW : s.WarmedH U.vm) (h : KK D ty s) : KK D ty U := by
  refine ⟨va_K.moved hW.alike h.1, fun w hw => ?_⟩
  have h0 := h.2 w hw
  unfold nestW at hw
  simp only [List.mem_cons, List.not_mem_nil, or_false] at hw
  rcases hw with rfl | rfl | rfl | rfl | rfl | rfl <;> exact va_Nw.warmM hW h0
theorem KK.calling {D : va_G} {ty : Nat → ClassId} {U : State} {g : JFrame} {mk : MethodId} {a : Array Value} (h : KK D ty U) : KK D ty (U.calling g mk a) := by
  refine ⟨va_K.moved (u := U) (U := U.calling g mk a) (Vm.Alike.refl U.vm) h.1, fun w hw => ?_⟩
  have h0 := h.2 w hw
  unfold nestW at hw
  simp only [List.mem_cons, List.not_mem_nil, or_false] at hw
  rcases hw with rfl | rfl | rfl | rfl | rfl | rfl <;> exact va_Nw.same rfl rfl h0
/-- a world: what its cells hold, that they are apart and in A, that nothing else has changed since H0 -/
def Wd (D : va_G) (A : Nat → Prop) (H0 : Heap) (ws : va_W) (H : Heap) (locs : List Loc) : Prop := va_P D vwCl ws H ∧ va_D A ws ∧ va_S A H0 H locs
abbrev Cx (p : Program) (m : MethodId) (c : Code) (cc : ByteArray) (nL : Nat) (s : State) (args : Array Value) (own : String) : Prop := CallFix p m c cc nL s args Wall own
def rmD (d : Nat) : Room := { frames := d, cells := 0, slots := 0, locals := 36 * d }
def MC (l : Launch) (D : va_G) (ty : Nat → ClassId) (y : MethodName) (cc : ByteArray) (n : Nat) (ret : Option FieldType) (d : Nat) (As : List Value) (w : va_W) (r : Option Value) (w' : va_W) : Prop :=
  ∀ sz : Nat, Met l y (Cond.code y cc n ret :: Wall) (rmD d) (va_Pc As (fun U => U.heap.size = sz ∧ va_P D vwCl w U.heap ∧ KK D ty U ∧ va_D (fun _ => True) w)) (fun _ st oc t => (oc = .returned r ∧ va_P D vwCl w' t.heap) ∧ va_F (va_A w sz) st t) 0 0 (va_A w sz)
section Entry
variable {l : Launch} {D : va_G} {ty : Nat → ClassId} {y : MethodName} {cc : ByteArray} {n d : Nat} {As : List Value} {w w' : va_W}
theorem mc_v (hy : plainName y.cls = true) (hn : (lg_sl As).length ≤ n)
    (body : ∀ (p : Program) (e : Env) (s : State) (m : MethodId) (args : Array Value) (below : List Frame) (meth : Method) (c : Code) (A : Nat → Prop) (Q : State → Prop) (ls : Array Slot), Cx p m c cc n s args y.cls → KK D ty s → (∀ q : Nat, s.heap.size ≤ q → A q) → Wd D A s.heap w s.heap [] →
      (∀ (H : Heap) (locs : List Loc) (pc : Nat) (ls : Array Slot) (w0 : va_W), decode cc pc = .ok (.return_, 1) → Wd D A s.heap w0 H locs → w0 = w' → W p l e (rmD d) s m args below meth c H locs 0 0 Q (F0 m pc ls [])) →
      lv_has ls n (lv_args 0 As) → W p l e (rmD d) s m args below meth c s.heap [] 0 0 Q (F0 m 0 ls [])) : MC l D ty y cc n none d As w none w' := by
  intro sz
  refine Met.ofW (cc := cc) (maxL := n) (ret := none) hy rfl ?_
  intro p e s m args below meth c s₁ B hml hv
  obtain ⟨rfl, hsz, hP, hK, hD0⟩ := hv
  subst hsz
  have hts := atoms_spec (ws := Cond.code y cc n none :: Wall) B.pre
  have hl := lv_entry As (n := n) hn
  rw [lg_entry_eq]
  generalize (lg_sl As ++ List.replicate (n - (lg_sl As).length) Slot.unset).toArray = ls at hl ⊢
  refine body p e s m _ below meth c (va_A w s.heap.size) _ ls ⟨B.exec, B.bytes, hml, findClass_of_methodNamed B.named, fun w h => hts w (List.mem_cons_of_mem _ h)⟩ hK (fun q h => Or.inr h) ⟨hP, hD0.self, va_S.rf⟩ ?_ hl
  intro H locs pc ls w0 hdg X ew
  subst ew
  exact W.vret B.exec B.bytes B.returns (fun t ht hW => ⟨⟨rfl, by rw [ht]; exact X.1⟩, X.2.2.F ht⟩) X.2.2.2.2 hdg B.notSynchronized
theorem mc_i {r : Int32} (hy : plainName y.cls = true) (hn : (lg_sl As).length ≤ n)
    (body : ∀ (p : Program) (e : Env) (s : State) (m : MethodId) (args : Array Value) (below : List Frame) (meth : Method) (c : Code) (A : Nat → Prop) (Q : State → Prop) (ls : Array Slot), Cx p m c cc n s args y.cls → KK D ty s → (∀ q : Nat, s.heap.size ≤ q → A q) → Wd D A s.heap w s.heap [] →
      (∀ (H : Heap) (locs : List Loc) (pc : Nat) (ls : Array Slot) (w0 : va_W) (r0 : Int32), decode cc pc = .ok (.ireturn, 1) → Wd D A s.heap w0 H locs → w0 = w' → r0 = r → W p l e (rmD d) s m args below meth c H locs 0 0 Q (F0 m pc ls [.int r0])) →
      lv_has ls n (lv_args 0 As) → W p l e (rmD d) s m args below meth c s.heap [] 0 0 Q (F0 m 0 ls [])) : MC l D ty y cc n (some .int) d As w (some (.int r)) w' := by
  intro sz
  refine Met.ofW (cc := cc) (maxL := n) (ret := some .int) hy rfl ?_
  intro p e s m args below meth c s₁ B hml hv
  obtain ⟨rfl, hsz, hP, hK, hD0⟩ := hv
  subst hsz
  have hts := atoms_spec (ws := Cond.code y cc n (some .int) :: Wall) B.pre
  have hl := lv_entry As (n := n) hn
  rw [lg_entry_eq]
  generalize (lg_sl As ++ List.replicate (n - (lg_sl As).length) Slot.unset).toArray = ls at hl ⊢
  refine body p e s m _ below meth c (va_A w s.heap.size) _ ls ⟨B.exec, B.bytes, hml, findClass_of_methodNamed B.named, fun w h => hts w (List.mem_cons_of_mem _ h)⟩ hK (fun q h => Or.inr h) ⟨hP, hD0.self, va_S.rf⟩ ?_ hl
  intro H locs pc ls w0 r0 hdg X ew er
  subst ew; subst er
  exact W.iret B.exec B.bytes B.returns (fun t ht hW => ⟨⟨rfl, by rw [ht]; exact X.1⟩, X.2.2.F ht⟩) X.2.2.2.2 hdg B.notSynchronized
theorem mc_z {r : Int32} (hy : plainName y.cls = true) (hn : (lg_sl As).length ≤ n) (hz : r &&& 1 = r)
    (body : ∀ (p : Program) (e : Env) (s : State) (m : MethodId) (args : Array Value) (below : List Frame) (meth : Method) (c : Code) (A : Nat → Prop) (Q : State → Prop) (ls : Array Slot), Cx p m c cc n s args y.cls → KK D ty s → (∀ q : Nat, s.heap.size ≤ q → A q) → Wd D A s.heap w s.heap [] →
      (∀ (H : Heap) (locs : List Loc) (pc : Nat) (ls : Array Slot) (w0 : va_W) (r0 : Int32), decode cc pc = .ok (.ireturn, 1) → Wd D A s.heap w0 H locs → w0 = w' → r0 = r → W p l e (rmD d) s m args below meth c H locs 0 0 Q (F0 m pc ls [.int r0])) →
      lv_has ls n (lv_args 0 As) → W p l e (rmD d) s m args below meth c s.heap [] 0 0 Q (F0 m 0 ls [])) : MC l D ty y cc n (some .boolean) d As w (some (.int r)) w' := by
  intro sz
  refine Met.ofW (cc := cc) (maxL := n) (ret := some .boolean) hy rfl ?_
  intro p e s m args below meth c s₁ B hml hv
  obtain ⟨rfl, hsz, hP, hK, hD0⟩ := hv
  subst hsz
  have hts := atoms_spec (ws := Cond.code y cc n (some .boolean) :: Wall) B.pre
  have hl := lv_entry As (n := n) hn
  rw [lg_entry_eq]
  generalize (lg_sl As ++ List.replicate (n - (lg_sl As).length) Slot.unset).toArray = ls at hl ⊢
  refine body p e s m _ below meth c (va_A w s.heap.size) _ ls ⟨B.exec, B.bytes, hml, findClass_of_methodNamed B.named, fun w h => hts w (List.mem_cons_of_mem _ h)⟩ hK (fun q h => Or.inr h) ⟨hP, hD0.self, va_S.rf⟩ ?_ hl
  intro H locs pc ls w0 r0 hdg X ew er
  subst ew; subst er
  exact W.zret (ty := .boolean) B.exec B.bytes B.returns (by show Value.int (r0 &&& 1) = _; rw [hz]) (fun t ht hW => ⟨⟨rfl, by rw [ht]; exact X.1⟩, X.2.2.F ht⟩) X.2.2.2.2 hdg B.notSynchronized
theorem mc_l {r : Int64} (hy : plainName y.cls = true) (hn : (lg_sl As).length ≤ n)
    (body : ∀ (p : Program) (e : Env) (s : State) (m : MethodId) (args : Array Value) (below : List Frame) (meth : Method) (c : Code) (A : Nat → Prop) (Q : State → Prop) (ls : Array Slot), Cx p m c cc n s args y.cls → KK D ty s → (∀ q : Nat, s.heap.size ≤ q → A q) → Wd D A s.heap w s.heap [] →
      (∀ (H : Heap) (locs : List Loc) (pc : Nat) (ls : Array Slot) (w0 : va_W) (r0 : Int64), decode cc pc = .ok (.lreturn, 1) → Wd D A s.heap w0 H locs → w0 = w' → r0 = r → W p l e (rmD d) s m args below meth c H locs 0 0 Q (F0 m pc ls [.long r0])) →
      lv_has ls n (lv_args 0 As) → W p l e (rmD d) s m args below meth c s.heap [] 0 0 Q (F0 m 0 ls [])) : MC l D ty y cc n (some .long) d As w (some (.long r)) w' := by
  intro sz
  refine Met.ofW (cc := cc) (maxL := n) (ret := some .long) hy rfl ?_
  intro p e s m args below meth c s₁ B hml hv
  obtain ⟨rfl, hsz, hP, hK, hD0⟩ := hv
  subst hsz
  have hts := atoms_spec (ws := Cond.code y cc n (some .long) :: Wall) B.pre
  have hl := lv_entry As (n := n) hn
  rw [lg_entry_eq]
  generalize (lg_sl As ++ List.replicate (n - (lg_sl As).length) Slot.unset).toArray = ls at hl ⊢
  refine body p e s m _ below meth c (va_A w s.heap.size) _ ls ⟨B.exec, B.bytes, hml, findClass_of_methodNamed B.named, fun w h => hts w (List.mem_cons_of_mem _ h)⟩ hK (fun q h => Or.inr h) ⟨hP, hD0.self, va_S.rf⟩ ?_ hl
  intro H locs pc ls w0 r0 hdg X ew er
  subst ew; subst er
  exact W.lret B.exec B.bytes B.returns (fun t ht hW => ⟨⟨rfl, by rw [ht]; exact X.1⟩, X.2.2.F ht⟩) X.2.2.2.2 hdg B.notSynchronized
end Entry
/-- several cells of a world set anew, by their places -/
def setL : List Nat → va_W → va_W → va_W
  | [], _, ws => ws
  | _ :: _, [], ws => ws
  | i :: is, x :: xs, ws => setL is xs (ws.set i x)
abbrev setM (ws : va_W) (is : List Nat) (xs : va_W) : va_W := setL is xs ws
theorem setM_fst : ∀ (is : List Nat) (ws xs : va_W), is.map (fun i => (ws.map Prod.fst)[i]?) = xs.map (fun x => some x.1) → (setM ws is xs).map Prod.fst = ws.map Prod.fst
  | [], ws, xs, _ => rfl
  | i :: is, ws, [], _ => rfl
  | i :: is, ws, x :: xs, h => by
    simp only [List.map_cons, List.cons.injEq] at h
    have e : (ws.set i x).map Prod.fst = ws.map Prod.fst := by
      rw [List.map_set]
      apply List.ext_getElem?
      intro k
      by_cases hk : i = k
      · subst hk
        obtain ⟨hl, -⟩ := List.getElem?_eq_some_iff.mp h.1
        rw [List.getElem?_set_self hl, h.1]
      · rw [List.getElem?_set_ne hk]
    show (setM (ws.set i x) is xs).map Prod.fst = _
    rw [setM_fst is (ws.set i x) xs (by rw [e]; exact h.2), e]
theorem setM_cases : ∀ (is : List Nat) (ws xs : va_W), is.length = xs.length → ∀ (k : Nat) (q : Nat × va_E), (setM ws is xs)[k]? = some q → (∃ j : Nat, xs[j]? = some q) ∨ (k ∉ is ∧ ws[k]? = some q)
  | [], ws, xs, _, k, q, h => Or.inr ⟨List.not_mem_nil, h⟩
  | i :: is, ws, [], hl, k, q, h => by simp at hl
  | i :: is, ws, x :: xs, hl, k, q, h => by
    have hl' : is.length = xs.length := by simpa using hl
    rcases setM_cases is (ws.set i x) xs hl' k q h with ⟨j, hj⟩ | ⟨h1, h2⟩
    · exact Or.inl ⟨j + 1, by rw [List.getElem?_cons_succ]; exact hj⟩
    · by_cases hk : i = k
      · subst hk
        rw [List.getElem?_set] at h2
        simp only [if_true] at h2
        split at h2
        · cases h2; exact Or.inl ⟨0, rfl⟩
        · cases h2
      · rw [List.getElem?_set_ne hk] at h2
        exact Or.inr ⟨fun hm => (List.mem_cons.mp hm).elim (fun e => hk e.symm) h1, h2⟩
theorem va_D.fst {A : Nat → Prop} {ws ws' : va_W} (h : va_D A ws) (e : ws'.map Prod.fst = ws.map Prod.fst) : va_D A ws' := by
  have key : ∀ (k : Nat) (q : Nat × va_E), ws'[k]? = some q → ∃ q0, ws[k]? = some q0 ∧ q0.1 = q.1 := by
    intro k q hk
    have h1 : (ws'.map Prod.fst)[k]? = some q.1 := by rw [List.getElem?_map, hk]; rfl
    rw [e, List.getElem?_map] at h1
    cases hq : ws[k]? with
    | none => rw [hq] at h1; cases h1
    | some q0 => rw [hq] at h1; exact ⟨q0, rfl, Option.some.inj h1⟩
  refine ⟨fun i j p q hp hq hpq => ?_, fun k q hk => ?_⟩
  · obtain ⟨p0, a1, a2⟩ := key i p hp
    obtain ⟨q0, b1, b2⟩ := key j q hq
    exact h.1 i j p0 q0 a1 b1 (by rw [a2, b2, hpq])
  · obtain ⟨q0, b1, b2⟩ := key k q hk
    rw [← b2]; exact h.2 k q0 b1
theorem pick_fst {ws wc : va_W} {is : List Nat} (hC : is.map (fun i => ws[i]?) = wc.map some) : is.map (fun i => (ws.map Prod.fst)[i]?) = wc.map (fun x => some x.1) := by
  have : is.map (fun i => (ws.map Prod.fst)[i]?) = (is.map (fun i => ws[i]?)).map (fun o => o.map Prod.fst) := by
    rw [List.map_map]; apply List.map_congr_left; intro i _; simp
  rw [this, hC, List.map_map]; rfl
theorem pick_at {ws wc : va_W} {is : List Nat} (hC : is.map (fun i => ws[i]?) = wc.map some) {j : Nat} {q : Nat × va_E} (h : wc[j]? = some q) : ∃ i, is[j]? = some i ∧ ws[i]? = some q := by
  have h1 : (is.map (fun i => ws[i]?))[j]? = some (some q) := by rw [hC, List.getElem?_map, h]; rfl
  rw [List.getElem?_map] at h1
  cases hi : is[j]? with
  | none => rw [hi] at h1; cases h1
  | some i => rw [hi] at h1; exact ⟨i, rfl, Option.some.inj h1⟩
theorem Wd.call {D : va_G} {A : Nat → Prop} {H0 H H1 : Heap} {locs locs1 : List Loc} {ws wc w1 : va_W} {is : List Nat} (X : Wd D A H0 ws H locs) (hC : is.map (fun i => ws[i]?) = wc.map some) (ha : w1.map Prod.fst = wc.map Prod.fst) (hP1 : va_P D vwCl w1 H1) (hk : ∀ q : Nat, q < H.size → ¬ va_A wc H.size q → H1[q]? = H[q]?) (hS1 : va_S A H0 H1 locs1) : Wd D A H0 (setM ws is w1) H1 locs1 := by
  have hlen : is.length = w1.length := by
    have e1 := congrArg List.length hC
    have e2 := congrArg List.length ha
    simp only [List.length_map] at e1 e2
    omega
  refine ⟨fun k q hq => ?_, X.2.1.fst (setM_fst is ws w1 ?_), hS1⟩
  · rcases setM_cases is ws w1 hlen k q hq with ⟨j, hj⟩ | ⟨h1, h2⟩
    · exact hP1 j q hj
    · have hlt := (X.1 k q h2).lt
      refine (X.1 k q h2).kept (hk q.1 hlt (fun hA => ?_))
      rcases hA with ⟨j, e, hj⟩ | h
      · obtain ⟨i, i1, i2⟩ := pick_at hC hj
        have := X.2.1.1 k i q (q.1, e) h2 i2 rfl
        subst this
        exact h1 (List.mem_of_getElem? i1)
      · omega
  · rw [pick_fst hC]
    have : wc.map (fun x => some x.1) = (wc.map Prod.fst).map some := by rw [List.map_map]; rfl
    rw [this, ← ha, List.map_map]; rfl
theorem setM_self : ∀ (is : List Nat) (ws wc : va_W), is.map (fun i => ws[i]?) = wc.map some → setM ws is wc = ws
  | [], ws, wc, _ => rfl
  | i :: is, ws, [], _ => rfl
  | i :: is, ws, x :: xs, h => by
    simp only [List.map_cons, List.cons.injEq] at h
    have e : ws.set i x = ws := by
      apply List.ext_getElem?
      intro k
      by_cases hk : i = k
      · subst hk
        obtain ⟨hl, -⟩ := List.getElem?_eq_some_iff.mp h.1
        rw [List.getElem?_set_self hl, h.1]
      · rw [List.getElem?_set_ne hk]
    show setM (ws.set i x) is xs = ws
    rw [e, setM_self is ws xs h.2]
/-- a method that is called by a receiver; a static one -/
def ML (y : MethodName) (cc : ByteArray) (n : Nat) (ret : Option FieldType) (k : Nat) : Prop := Cond.instanceMethod y ∈ Wall ∧ Cond.selects y.cls y y ∈ Wall ∧ Cond.initialized y.cls ∈ Wall ∧ Cond.code y cc n ret ∈ Wall ∧ y.cls ≠ "java/lang/invoke/MethodHandle" ∧ y.cls ≠ "java/lang/invoke/VarHandle" ∧ (parseMethodDescriptor y.desc).map (fun d => d.parameters.length) = some k
def SL (y : MethodName) (cc : ByteArray) (n : Nat) (ret : Option FieldType) (k : Nat) : Prop := Cond.static y ∈ Wall ∧ Cond.initialized y.cls ∈ Wall ∧ Cond.code y cc n ret ∈ Wall ∧ y.cls ≠ "java/lang/invoke/MethodHandle" ∧ y.cls ≠ "java/lang/invoke/VarHandle" ∧ (parseMethodDescriptor y.desc).map (fun d => d.parameters.length) = some k
def FL (own : String) (index ci k : Nat) : Prop := ∃ (C : String) (T : u_T) (N : Nat), vwCl[ci]? = some (C, T, N) ∧ (∀ w ∈ u_ws C T N, w ∈ Wall) ∧ k < N ∧ Cond.fieldLink own index (T k).1 (T k).2.1 (T k).2.2.1 ∈ Wall
def PL (own : String) (index ci k : Nat) (t : FieldType) : Prop := ∃ (C : String) (T : u_T) (N : Nat) (ty0 : Nat → FieldType), vwCl[ci]? = some (C, T, N) ∧ (∀ w ∈ u_ws C T N, w ∈ Wall) ∧ (∀ k, k < N → parseFieldDescriptor (T k).2.2.1 = some (ty0 k)) ∧ (∀ a, a < N → ∀ b, b < N → a ≠ b → (T a).2.1 ≠ (T b).2.1) ∧ k < N ∧ Cond.fieldLink own index (T k).1 (T k).2.1 (T k).2.2.1 ∈ Wall ∧ (T k).2.2.2 = false ∧ parseFieldDescriptor (T k).2.2.1 = some t
def pickP (ws : va_W) : List Nat → va_W → Prop
  | [], [] => True
  | i :: is, x :: xs => ws[i]? = some x ∧ pickP ws is xs
  | _, _ => False
theorem pk_n {ws : va_W} : pickP ws [] [] := trivial
theorem pk_c {ws : va_W} {i : Nat} {is : List Nat} {x : Nat × va_E} {xs : va_W} (h : ws[i]? = some x) (t : pickP ws is xs) : pickP ws (i :: is) (x :: xs) := ⟨h, t⟩
theorem pickP.map {ws : va_W} : ∀ {is : List Nat} {xs : va_W}, pickP ws is xs → is.map (fun i => ws[i]?) = xs.map some
  | [], [], _ => rfl
  | i :: is, x :: xs, h => by
    simp only [List.map_cons]
    rw [h.1, pickP.map h.2]
  | [], _ :: _, h => h.elim
  | _ :: _, [], h => h.elim
def sameA : va_W → va_W → Prop
  | [], [] => True
  | x :: xs, y :: ys => x.1 = y.1 ∧ sameA xs ys
  | _, _ => False
theorem sa_n : sameA [] [] := trivial
theorem sa_c {a : Nat} {e e' : va_E} {xs ys : va_W} (t : sameA xs ys) : sameA ((a, e) :: xs) ((a, e') :: ys) := ⟨rfl, t⟩
theorem sameA.fst : ∀ {xs ys : va_W}, sameA xs ys → xs.map Prod.fst = ys.map Prod.fst
  | [], [], _ => rfl
  | x :: xs, y :: ys, h => by
    simp only [List.map_cons]
    rw [h.1, sameA.fst h.2]
  | [], _ :: _, h => h.elim
  | _ :: _, [], h => h.elim
/-- two worlds alike but at the marked places, where only the addresses are -/
def eqM : List Bool → va_W → va_W → Prop
  | [], [], [] => True
  | true :: ms, x :: xs, y :: ys => x.1 = y.1 ∧ eqM ms xs ys
  | false :: ms, x :: xs, y :: ys => x = y ∧ eqM ms xs ys
  | _, _, _ => False
theorem em_n : eqM [] [] [] := trivial
theorem em_t {a : Nat} {e e' : va_E} {ms : List Bool} {xs ys : va_W} (t : eqM ms xs ys) : eqM (true :: ms) ((a, e) :: xs) ((a, e') :: ys) := ⟨rfl, t⟩
theorem em_f {x : Nat × va_E} {ms : List Bool} {xs ys : va_W} (t : eqM ms xs ys) : eqM (false :: ms) (x :: xs) (x :: ys) := ⟨rfl, t⟩
theorem eqM.fst : ∀ {ms : List Bool} {xs ys : va_W}, eqM ms xs ys → ys.map Prod.fst = xs.map Prod.fst
  | [], [], [], _ => rfl
  | true :: ms, x :: xs, y :: ys, h => by simp only [List.map_cons]; rw [h.1, eqM.fst h.2]
  | false :: ms, x :: xs, y :: ys, h => by simp only [List.map_cons]; rw [h.1, eqM.fst h.2]
theorem eqM.at : ∀ {ms : List Bool} {xs ys : va_W}, eqM ms xs ys → ∀ (k : Nat) (q : Nat × va_E), ys[k]? = some q → ms[k]? = some true ∨ (ms[k]? = some false ∧ xs[k]? = some q)
  | [], [], [], _, k, q, h => by simp at h
  | true :: ms, x :: xs, y :: ys, h, 0, q, hq => Or.inl rfl
  | false :: ms, x :: xs, y :: ys, h, 0, q, hq => Or.inr ⟨rfl, by rw [h.1]; exact hq⟩
  | true :: ms, x :: xs, y :: ys, h, k + 1, q, hq => by
    rw [List.getElem?_cons_succ] at hq
    rcases eqM.at h.2 k q hq with r | r
    · exact Or.inl (by rw [List.getElem?_cons_succ]; exact r)
    · exact Or.inr ⟨by rw [List.getElem?_cons_succ]; exact r.1, by rw [List.getElem?_cons_succ]; exact r.2⟩
  | false :: ms, x :: xs, y :: ys, h, k + 1, q, hq => by
    rw [List.getElem?_cons_succ] at hq
    rcases eqM.at h.2 k q hq with r | r
    · exact Or.inl (by rw [List.getElem?_cons_succ]; exact r)
    · exact Or.inr ⟨by rw [List.getElem?_cons_succ]; exact r.1, by rw [List.getElem?_cons_succ]; exact r.2⟩
def maskOK (ms : List Bool) (is : List Nat) : Bool := decide (ms = (List.range ms.length).map (fun k => decide (k ∈ is)))
theorem maskOK.at {ms : List Bool} {is : List Nat} (h : maskOK ms is = true) {k : Nat} {b : Bool} (hk : ms[k]? = some b) : b = decide (k ∈ is) := by
  have e := of_decide_eq_true h
  have hl := (List.getElem?_eq_some_iff.mp hk).1
  rw [e, List.getElem?_map, List.getElem?_range hl] at hk
  exact (Option.some.inj hk).symm
theorem Wd.call1 {D : va_G} {A : Nat → Prop} {H0 H H1 : Heap} {locs locs1 : List Loc} {ws wc w1 ws' : va_W} {is : List Nat} {ms : List Bool} (X : Wd D A H0 ws H locs) (hC : is.map (fun i => ws[i]?) = wc.map some) (hC1 : is.map (fun i => ws'[i]?) = w1.map some) (hE : eqM ms ws ws') (hm : maskOK ms is = true) (hP1 : va_P D vwCl w1 H1) (hk : ∀ q : Nat, q < H.size → ¬ va_A wc H.size q → H1[q]? = H[q]?) (hS1 : va_S A H0 H1 locs1) : Wd D A H0 ws' H1 locs1 := by
  refine ⟨fun k q hq => ?_, X.2.1.fst hE.fst, hS1⟩
  rcases hE.at k q hq with h1 | ⟨h1, h2⟩
  · have hmem : k ∈ is := by have := hm; have e := maskOK.at hm h1; exact of_decide_eq_true e.symm
    obtain ⟨j, hj⟩ := List.getElem?_of_mem hmem
    have h3 : (is.map (fun i => ws'[i]?))[j]? = some (some q) := by rw [List.getElem?_map, hj, ← hq]; rfl
    rw [hC1, List.getElem?_map] at h3
    cases hw : w1[j]? with
    | none => rw [hw] at h3; cases h3
    | some q1 => rw [hw] at h3; cases h3; exact hP1 j q hw
  · have hnm : k ∉ is := by have e := maskOK.at hm h1; exact of_decide_eq_false e.symm
    have hlt := (X.1 k q h2).lt
    refine (X.1 k q h2).kept (hk q.1 hlt (fun hA => ?_))
    rcases hA with ⟨j, e, hj⟩ | h
    · obtain ⟨i, i1, i2⟩ := pick_at hC hj
      have := X.2.1.1 k i q (q.1, e) h2 i2 rfl
      subst this
      exact hnm (List.mem_of_getElem? i1)
    · omega
theorem Wd.call0 {D : va_G} {A : Nat → Prop} {H0 H H1 : Heap} {locs locs1 : List Loc} {ws wc : va_W} {is : List Nat} (X : Wd D A H0 ws H locs) (hC : is.map (fun i => ws[i]?) = wc.map some) (hP1 : va_P D vwCl wc H1) (hk : ∀ q : Nat, q < H.size → ¬ va_A wc H.size q → H1[q]? = H[q]?) (hS1 : va_S A H0 H1 locs1) : Wd D A H0 ws H1 locs1 := by
  have := X.call hC rfl hP1 hk hS1
  rwa [show setM ws is wc = ws from setM_self is ws wc hC] at this
section Steps
variable {p : Program} {l : Launch} {e : Env} {R : Room} {s : State} {m : MethodId} {args : Array Value} {below : List Frame} {meth : Method} {c : Code} {H : Heap} {locs : List Loc} {cells slots : Nat} {Q : State → Prop}
variable {cc : ByteArray} {nL pc : Nat} {ls : Array Slot} {rest : List Value} {own : String} {D : va_G} {ty : Nat → ClassId} {A : Nat → Prop} {H0 : Heap} {ws : va_W} {a : Nat}
theorem s_get {ci k index : Nat} {fs : List Value} {v : Value} (C : Cx p m c cc nL s args own) (hK : KK D ty s) (X : Wd D A H0 ws H locs) (q0 : Nat) (he : ws[q0]? = some (a, .inr (ci, fs))) (hf : FL own index ci k) (hv : fs[k]? = some v) (hdg : decode cc pc = .ok (.getfield index, 3))
    (kk : W p l e R s m args below meth c H locs cells slots Q (F0 m (pc + 3) ls (v :: rest))) : W p l e R s m args below meth c H locs cells slots Q (F0 m pc ls (.ref a :: rest)) := by
  obtain ⟨Cn, T, N, h1, h2, h3, h4⟩ := hf
  exact va_get (D := D) (ci := ci) (v := v) (C := Cn) (T := T) (N := N) C.1 C.2.1 C.2.2.2.2 h2 C.2.2.2.1 hK.1 X.1 q0 he h1 k h3 (C.2.2.2.2 _ h4) (fun _ h9 => h9) hv hdg kk
theorem s_put {ci k index : Nat} {fs : List Value} {v : Value} {t : FieldType} (C : Cx p m c cc nL s args own) (hK : KK D ty s) (X : Wd D A H0 ws H locs) (q0 : Nat) (he : ws[q0]? = some (a, .inr (ci, fs))) (hf : PL own index ci k t) (hn : narrow t v = v) (hfit : fits t v = true) (hl : k < fs.length) (hdg : decode cc pc = .ok (.putfield index, 3))
    (kk : ∀ (H1 : Heap) (locs1 : List Loc), Wd D A H0 (ws.set q0 (a, .inr (ci, fs.set k v))) H1 locs1 → W p l e R s m args below meth c H1 locs1 cells slots Q (F0 m (pc + 3) ls rest)) : W p l e R s m args below meth c H locs cells slots Q (F0 m pc ls (v :: .ref a :: rest)) := by
  obtain ⟨Cn, T, N, ty0, h1, h2, h3, h4, h5, h6, h7, h8⟩ := hf
  exact va_put (D := D) (ci := ci) (v := v) (ty := t) (C := Cn) (T := T) (N := N) C.1 C.2.1 C.2.2.2.2 h2 ty0 h3 h4 C.2.2.2.1 hK.1 X.1 X.2.1 X.2.2 q0 he h1 k h5 (C.2.2.2.2 _ h6) (fun _ h9 => h9) h7 h8 hn hfit hl hdg (fun H1 locs1 hP hD hS => kk H1 locs1 ⟨hP, hD, hS⟩)
theorem s_iald {n : Nat} {f : Nat → Int32} {i : Int32} (C : Cx p m c cc nL s args own) (hK : KK D ty s) (X : Wd D A H0 ws H locs) (q0 : Nat) (he : ws[q0]? = some (a, .inl (ty 0, n, .inl f))) (hin : vp_in i n) (hdg : decode cc pc = .ok (.iaload, 1))
    (kk : W p l e R s m args below meth c H locs cells slots Q (F0 m (pc + 1) ls (.int (f i.toNatClampNeg) :: rest))) : W p l e R s m args below meth c H locs cells slots Q (F0 m pc ls (.int i :: .ref a :: rest)) :=
  va_iald C.1 C.2.1 hK.1 X.1 q0 0 he rfl hin hdg kk
/-- an array's place by its number -/
theorem s_ialN {n : Nat} {f : Nat → Int32} {i : Int32} (C : Cx p m c cc nL s args own) (hK : KK D ty s) (X : Wd D A H0 ws H locs) (q0 j : Nat) (he : ws[q0]? = some (a, .inl (ty 0, n, .inl f))) (hi : i = nI j) (hj : j < n) (hn : n < 2 ^ 31) (hdg : decode cc pc = .ok (.iaload, 1))
    (kk : W p l e R s m args below meth c H locs cells slots Q (F0 m (pc + 1) ls (.int (f j) :: rest))) : W p l e R s m args below meth c H locs cells slots Q (F0 m pc ls (.int i :: .ref a :: rest)) := by
  subst hi
  refine va_iald C.1 C.2.1 hK.1 X.1 q0 0 he rfl (vp_in_nI hj hn) hdg ?_
  rw [nI_clamp (by omega)]
  exact kk
theorem s_iasN {n : Nat} {f : Nat → Int32} {i x : Int32} (C : Cx p m c cc nL s args own) (hK : KK D ty s) (X : Wd D A H0 ws H locs) (q0 j : Nat) (he : ws[q0]? = some (a, .inl (ty 0, n, .inl f))) (hi : i = nI j) (hj : j < n) (hn : n < 2 ^ 31) (hdg : decode cc pc = .ok (.iastore, 1))
    (kk : ∀ (H1 : Heap) (locs1 : List Loc), Wd D A H0 (ws.set q0 (a, .inl (ty 0, n, .inl (upd f j x)))) H1 locs1 → W p l e R s m args below meth c H1 locs1 cells slots Q (F0 m (pc + 1) ls rest)) : W p l e R s m args below meth c H locs cells slots Q (F0 m pc ls (.int x :: .int i :: .ref a :: rest)) := by
  subst hi
  refine va_iast C.1 C.2.1 hK.1 X.1 X.2.1 X.2.2 q0 0 he rfl (vp_in_nI hj hn) hdg (fun H1 locs1 hP hD hS => ?_)
  rw [nI_clamp (by omega)] at hP hD
  exact kk H1 locs1 ⟨hP, hD, hS⟩
theorem s_aald {t0 n b : Nat} {Cn : String} {cA : ClassId} {f : Nat → Option Nat} {i : Int32} (C : Cx p m c cc nL s args own) (hK : KK D ty s) (X : Wd D A H0 ws H locs) (q0 : Nat) (he : ws[q0]? = some (a, .inl (cA, n, .inr (.inr (.inr (.inr f)))))) (ht : (TY ty)[t0]? = some (cA, .object Cn)) (hin : vp_in i n) (hf : f i.toNatClampNeg = some b) (hdg : decode cc pc = .ok (.aaload, 1))
    (kk : W p l e R s m args below meth c H locs cells slots Q (F0 m (pc + 1) ls (.ref b :: rest))) : W p l e R s m args below meth c H locs cells slots Q (F0 m pc ls (.int i :: .ref a :: rest)) := by
  refine va_aldq C.1 C.2.1 hK.1 X.1 q0 t0 he ht hin hdg ?_
  rw [hf]
  exact kk
theorem s_run {wc w1 : va_W} {is : List Nat} {r : Option Value} {st0 : List Value} {a0 : Array Value} (hA : ∀ q : Nat, H0.size ≤ q → A q) (X : Wd D A H0 ws H locs) (hC : is.map (fun i => ws[i]?) = wc.map some) (ha : w1.map Prod.fst = wc.map Prod.fst)
    (hr : va_Run p l e R s m args below meth c H locs cells slots 0 0 (F0 m pc ls st0) rest ((fun (_ : Array Value) st oc t => (oc = .returned r ∧ va_P D vwCl w1 t.heap) ∧ va_F (va_A wc H.size) st t) a0) (va_A wc H.size))
    (kk : ∀ (H1 : Heap) (locs1 : List Loc), Wd D A H0 (setM ws is w1) H1 locs1 → W p l e R s m args below meth c H1 locs1 cells slots Q (F0 m (pc + 3) ls (r.toList ++ rest))) : W p l e R s m args below meth c H locs cells slots Q (F0 m pc ls st0) := by
  intro T hT Y
  obtain ⟨v, st₀, t, T', L, h0, Y', hL, e1, e2, ⟨⟨hv, hP1⟩, hz, hk⟩, st⟩ := hr T hT Y
  cases hv
  rw [h0] at hz hk
  have hfree : ∀ q, va_A wc H.size q → A q := va_free X.2.1 X.2.2 hA is hC
  have hS1 : va_S A H0 T'.heap (locs ++ L) := ⟨Nat.le_trans X.2.2.1 (by rw [e1]; exact hz), fun q h1 h2 => by rw [e1, hk q (Nat.lt_of_lt_of_le h1 X.2.2.1) (fun z => h2 (hfree q z))]; exact X.2.2.2.1 q h1 h2, fun q hq => by
      rcases List.mem_append.mp hq with h | h
      · exact X.2.2.2.2 q h
      · exact hfree _ (hL q h)⟩
  obtain ⟨t2, a1, b1⟩ := kk T'.heap (locs ++ L) (X.call hC ha (by rw [e1]; exact hP1) (fun q h1 h2 => by rw [e1]; exact hk q h1 h2) hS1) T' rfl Y'
  exact ⟨t2, st t2 a1, b1⟩
theorem s_run1 {wc w1 ws' : va_W} {is : List Nat} {ms : List Bool} {r : Option Value} {st0 : List Value} {a0 : Array Value} (hA : ∀ q : Nat, H0.size ≤ q → A q) (X : Wd D A H0 ws H locs) (hC : is.map (fun i => ws[i]?) = wc.map some) (hC1 : is.map (fun i => ws'[i]?) = w1.map some) (hE : eqM ms ws ws') (hm : maskOK ms is = true)
    (hr : va_Run p l e R s m args below meth c H locs cells slots 0 0 (F0 m pc ls st0) rest ((fun (_ : Array Value) st oc t => (oc = .returned r ∧ va_P D vwCl w1 t.heap) ∧ va_F (va_A wc H.size) st t) a0) (va_A wc H.size))
    (kk : ∀ (H1 : Heap) (locs1 : List Loc), Wd D A H0 ws' H1 locs1 → W p l e R s m args below meth c H1 locs1 cells slots Q (F0 m (pc + 3) ls (r.toList ++ rest))) : W p l e R s m args below meth c H locs cells slots Q (F0 m pc ls st0) := by
  intro T hT Y
  obtain ⟨v, st₀, t, T', L, h0, Y', hL, e1, e2, ⟨⟨hv, hP1⟩, hz, hk⟩, st⟩ := hr T hT Y
  cases hv
  rw [h0] at hz hk
  have hfree : ∀ q, va_A wc H.size q → A q := va_free X.2.1 X.2.2 hA is hC
  have hS1 : va_S A H0 T'.heap (locs ++ L) := ⟨Nat.le_trans X.2.2.1 (by rw [e1]; exact hz), fun q h1 h2 => by rw [e1, hk q (Nat.lt_of_lt_of_le h1 X.2.2.1) (fun z => h2 (hfree q z))]; exact X.2.2.2.1 q h1 h2, fun q hq => by
      rcases List.mem_append.mp hq with h | h
      · exact X.2.2.2.2 q h
      · exact hfree _ (hL q h)⟩
  obtain ⟨t2, a1, b1⟩ := kk T'.heap (locs ++ L) (X.call1 hC hC1 hE hm (by rw [e1]; exact hP1) (fun q h1 h2 => by rw [e1]; exact hk q h1 h2) hS1) T' rfl Y'
  exact ⟨t2, st t2 a1, b1⟩
theorem s_run0 {wc : va_W} {is : List Nat} {r : Option Value} {st0 : List Value} {a0 : Array Value} (hA : ∀ q : Nat, H0.size ≤ q → A q) (X : Wd D A H0 ws H locs) (hC : is.map (fun i => ws[i]?) = wc.map some) 
    (hr : va_Run p l e R s m args below meth c H locs cells slots 0 0 (F0 m pc ls st0) rest ((fun (_ : Array Value) st oc t => (oc = .returned r ∧ va_P D vwCl wc t.heap) ∧ va_F (va_A wc H.size) st t) a0) (va_A wc H.size))
    (kk : ∀ (H1 : Heap) (locs1 : List Loc), Wd D A H0 ws H1 locs1 → W p l e R s m args below meth c H1 locs1 cells slots Q (F0 m (pc + 3) ls (r.toList ++ rest))) : W p l e R s m args below meth c H locs cells slots Q (F0 m pc ls st0) := by
  intro T hT Y
  obtain ⟨v, st₀, t, T', L, h0, Y', hL, e1, e2, ⟨⟨hv, hP1⟩, hz, hk⟩, st⟩ := hr T hT Y
  cases hv
  rw [h0] at hz hk
  have hfree : ∀ q, va_A wc H.size q → A q := va_free X.2.1 X.2.2 hA is hC
  have hS1 : va_S A H0 T'.heap (locs ++ L) := ⟨Nat.le_trans X.2.2.1 (by rw [e1]; exact hz), fun q h1 h2 => by rw [e1, hk q (Nat.lt_of_lt_of_le h1 X.2.2.1) (fun z => h2 (hfree q z))]; exact X.2.2.2.1 q h1 h2, fun q hq => by
      rcases List.mem_append.mp hq with h | h
      · exact X.2.2.2.2 q h
      · exact hfree _ (hL q h)⟩
  obtain ⟨t2, a1, b1⟩ := kk T'.heap (locs ++ L) (X.call0 hC (by rw [e1]; exact hP1) (fun q h1 h2 => by rw [e1]; exact hk q h1 h2) hS1) T' rfl Y'
  exact ⟨t2, st t2 a1, b1⟩
theorem mc_pre {wc : va_W} {is : List Nat} {As : List Value} (hK : KK D ty s) (X : Wd D A H0 ws H locs) (hC : is.map (fun i => ws[i]?) = wc.map some) (hn : va_nd is = true) : FrameBlind (va_Pc As (fun U => U.heap.size = H.size ∧ va_P D vwCl wc U.heap ∧ KK D ty U ∧ va_D (fun _ => True) wc)) ∧ ∀ U : State, U.heap = H → s.WarmedH U.vm → va_Pc As (fun U => U.heap.size = H.size ∧ va_P D vwCl wc U.heap ∧ KK D ty U ∧ va_D (fun _ => True) wc) As.toArray U := by
  refine ⟨fun a U g mk q => ?_, fun U hU hW => ?_⟩
  · obtain ⟨q0, q1, qP, qK, qD⟩ := q
    exact ⟨q0, q1, qP, qK.calling, qD⟩
  · refine ⟨rfl, by rw [hU], ?_, hK.warm hW, (X.2.1.sub is hn hC).weaken (fun _ _ _ _ => trivial)⟩
    rw [hU]
    intro k q hk
    obtain ⟨i, i1, i2⟩ := pick_at hC hk
    exact X.1 i q i2
/-- a call by a receiver -/
theorem s_cV {y : MethodName} {cy : ByteArray} {n' d index b ci q0 : Nat} {ret : Option FieldType} {As : List Value} {wc w1 ws' : va_W} {ms : List Bool} {r : Option Value} {fs : List Value} {Cn : vw_C} {st0 : List Value} (C : Cx p m c cc nL s args own) (hK : KK D ty s) (hA : ∀ q : Nat, H0.size ≤ q → A q) (X : Wd D A H0 ws H locs)
    (hM : MC l D ty y cy n' ret d (.ref b :: As) wc r w1) (is : List Nat) (hC0 : pickP ws is wc) (hn : va_nd is = true) (hC9 : pickP ws' is w1) (hE : eqM ms ws ws') (hm : maskOK ms is = true) (hL : ML y cy n' ret As.length) (hl : Cond.methodLink own index y ∈ Wall) (hq : wc[q0]? = some (b, .inr (ci, fs))) (hcl : vwCl[ci]? = some Cn) (hcn : Cn.1 = y.cls) (hR : d + 1 ≤ R.frames ∧ 8 + (n' + 11) + 36 * d ≤ R.locals) (hcs : cells ≤ R.cells ∧ slots ≤ R.slots) (hls : ls.size = nL) (hst : st0 = As.reverse ++ .ref b :: rest) (hrest : (rest.map fun v => v.category).sum ≤ 8) (hdg : decode cc pc = .ok (.invokevirtual index, 3))
    (kk : ∀ (H1 : Heap) (locs1 : List Loc), Wd D A H0 ws' H1 locs1 → W p l e R s m args below meth c H1 locs1 cells slots Q (F0 m (pc + 3) ls (r.toList ++ rest))) : W p l e R s m args below meth c H locs cells slots Q (F0 m pc ls st0) := by
  obtain ⟨g1, g2, g3, g4, g5, g6, g7⟩ := hL
  have hts := C.2.2.2.2
  have hC := hC0.map
  have hC1 := hC9.map
  obtain ⟨pb, pu⟩ := mc_pre (As := .ref b :: As) hK X hC hn
  obtain ⟨i0, j1, j2⟩ := pick_at hC hq
  have hrecv := va_recv hK.1 X.1 hcl j2
  rw [hcn] at hrecv
  refine s_run1 (a0 := #[]) hA X hC hC1 hE hm (va_runV (As := As) (rest := rest) C (hM H.size) ⟨callB_of As.length hts (wall_good (fun _ h => h) g4) rfl rfl rfl (hts _ g3) (hts _ hl) ⟨g5, g6, g7⟩ hR, hts _ g1, hts _ g2⟩ ⟨pb, hrecv, pu⟩ rfl rfl hls hst (lv_room hrest) hdg hcs) kk
/-- a static call -/
theorem s_cS {y : MethodName} {cy : ByteArray} {n' d index : Nat} {ret : Option FieldType} {As : List Value} {wc w1 ws' : va_W} {ms : List Bool} {r : Option Value} {st0 : List Value} (C : Cx p m c cc nL s args own) (hK : KK D ty s) (hA : ∀ q : Nat, H0.size ≤ q → A q) (X : Wd D A H0 ws H locs)
    (hM : MC l D ty y cy n' ret d As wc r w1) (is : List Nat) (hC0 : pickP ws is wc) (hn : va_nd is = true) (hC9 : pickP ws' is w1) (hE : eqM ms ws ws') (hm : maskOK ms is = true) (hL : SL y cy n' ret As.length) (hl : Cond.methodLink own index y ∈ Wall) (hR : d + 1 ≤ R.frames ∧ 8 + (n' + 11) + 36 * d ≤ R.locals) (hcs : cells ≤ R.cells ∧ slots ≤ R.slots) (hls : ls.size = nL) (hst : st0 = As.reverse ++ rest) (hrest : (rest.map fun v => v.category).sum ≤ 8) (hdg : decode cc pc = .ok (.invokestatic index, 3))
    (kk : ∀ (H1 : Heap) (locs1 : List Loc), Wd D A H0 ws' H1 locs1 → W p l e R s m args below meth c H1 locs1 cells slots Q (F0 m (pc + 3) ls (r.toList ++ rest))) : W p l e R s m args below meth c H locs cells slots Q (F0 m pc ls st0) := by
  obtain ⟨g1, g3, g4, g5, g6, g7⟩ := hL
  have hts := C.2.2.2.2
  have hC := hC0.map
  have hC1 := hC9.map
  refine s_run1 (a0 := #[]) hA X hC hC1 hE hm (va_runS (As := As) (rest := rest) C (hM H.size) ⟨callB_of As.length hts (wall_good (fun _ h => h) g4) rfl rfl rfl (hts _ g3) (hts _ hl) ⟨g5, g6, g7⟩ hR, hts _ g1⟩ (mc_pre hK X hC hn) rfl rfl hls hst (lv_room hrest) hdg hcs) kk
/-- a static call of a nest mate's private method -/
theorem s_cN {y : MethodName} {host : String} {cy : ByteArray} {n' d index : Nat} {ret : Option FieldType} {As : List Value} {wc w1 ws' : va_W} {ms : List Bool} {r : Option Value} {st0 : List Value} (C : Cx p m c cc nL s args own) (hK : KK D ty s) (hA : ∀ q : Nat, H0.size ≤ q → A q) (X : Wd D A H0 ws H locs)
    (hM : MC l D ty y cy n' ret d As wc r w1) (is : List Nat) (hC0 : pickP ws is wc) (hn : va_nd is = true) (hC9 : pickP ws' is w1) (hE : eqM ms ws ws') (hm : maskOK ms is = true) (hL : SL y cy n' ret As.length) (hl : Cond.methodLinkNest own index y host ∈ nestW) (hR : d + 1 ≤ R.frames ∧ 8 + (n' + 11) + 36 * d ≤ R.locals) (hcs : cells ≤ R.cells ∧ slots ≤ R.slots) (hls : ls.size = nL) (hst : st0 = As.reverse ++ rest) (hrest : (rest.map fun v => v.category).sum ≤ 8) (hdg : decode cc pc = .ok (.invokestatic index, 3))
    (kk : ∀ (H1 : Heap) (locs1 : List Loc), Wd D A H0 ws' H1 locs1 → W p l e R s m args below meth c H1 locs1 cells slots Q (F0 m (pc + 3) ls (r.toList ++ rest))) : W p l e R s m args below meth c H locs cells slots Q (F0 m pc ls st0) := by
  obtain ⟨g1, g3, g4, g5, g6, g7⟩ := hL
  have hts := C.2.2.2.2
  have hC := hC0.map
  have hC1 := hC9.map
  refine s_run1 (a0 := #[]) hA X hC hC1 hE hm (va_runSN (As := As) (rest := rest) C (hM H.size) ⟨va_cnB As.length hts (wall_good (fun _ h => h) g4) rfl rfl rfl (hK.2 _ hl) (hts _ g3) ⟨g5, g6, g7⟩ hR, hts _ g1, trivial⟩ (mc_pre hK X hC hn) rfl rfl hls hst (lv_room hrest) hdg hcs) kk
/-- a call by a receiver -/
theorem s_cV0 {y : MethodName} {cy : ByteArray} {n' d index b ci q0 : Nat} {ret : Option FieldType} {As : List Value} {wc : va_W} {r : Option Value} {fs : List Value} {Cn : vw_C} {st0 : List Value} (C : Cx p m c cc nL s args own) (hK : KK D ty s) (hA : ∀ q : Nat, H0.size ≤ q → A q) (X : Wd D A H0 ws H locs)
    (hM : MC l D ty y cy n' ret d (.ref b :: As) wc r wc) (is : List Nat) (hC0 : pickP ws is wc) (hn : va_nd is = true) (hL : ML y cy n' ret As.length) (hl : Cond.methodLink own index y ∈ Wall) (hq : wc[q0]? = some (b, .inr (ci, fs))) (hcl : vwCl[ci]? = some Cn) (hcn : Cn.1 = y.cls) (hR : d + 1 ≤ R.frames ∧ 8 + (n' + 11) + 36 * d ≤ R.locals) (hcs : cells ≤ R.cells ∧ slots ≤ R.slots) (hls : ls.size = nL) (hst : st0 = As.reverse ++ .ref b :: rest) (hrest : (rest.map fun v => v.category).sum ≤ 8) (hdg : decode cc pc = .ok (.invokevirtual index, 3))
    (kk : ∀ (H1 : Heap) (locs1 : List Loc), Wd D A H0 ws H1 locs1 → W p l e R s m args below meth c H1 locs1 cells slots Q (F0 m (pc + 3) ls (r.toList ++ rest))) : W p l e R s m args below meth c H locs cells slots Q (F0 m pc ls st0) := by
  obtain ⟨g1, g2, g3, g4, g5, g6, g7⟩ := hL
  have hts := C.2.2.2.2
  have hC := hC0.map
  obtain ⟨pb, pu⟩ := mc_pre (As := .ref b :: As) hK X hC hn
  obtain ⟨i0, j1, j2⟩ := pick_at hC hq
  have hrecv := va_recv hK.1 X.1 hcl j2
  rw [hcn] at hrecv
  refine s_run0 (a0 := #[]) hA X hC (va_runV (As := As) (rest := rest) C (hM H.size) ⟨callB_of As.length hts (wall_good (fun _ h => h) g4) rfl rfl rfl (hts _ g3) (hts _ hl) ⟨g5, g6, g7⟩ hR, hts _ g1, hts _ g2⟩ ⟨pb, hrecv, pu⟩ rfl rfl hls hst (lv_room hrest) hdg hcs) kk
/-- a static call -/
theorem s_cS0 {y : MethodName} {cy : ByteArray} {n' d index : Nat} {ret : Option FieldType} {As : List Value} {wc : va_W} {r : Option Value} {st0 : List Value} (C : Cx p m c cc nL s args own) (hK : KK D ty s) (hA : ∀ q : Nat, H0.size ≤ q → A q) (X : Wd D A H0 ws H locs)
    (hM : MC l D ty y cy n' ret d As wc r wc) (is : List Nat) (hC0 : pickP ws is wc) (hn : va_nd is = true) (hL : SL y cy n' ret As.length) (hl : Cond.methodLink own index y ∈ Wall) (hR : d + 1 ≤ R.frames ∧ 8 + (n' + 11) + 36 * d ≤ R.locals) (hcs : cells ≤ R.cells ∧ slots ≤ R.slots) (hls : ls.size = nL) (hst : st0 = As.reverse ++ rest) (hrest : (rest.map fun v => v.category).sum ≤ 8) (hdg : decode cc pc = .ok (.invokestatic index, 3))
    (kk : ∀ (H1 : Heap) (locs1 : List Loc), Wd D A H0 ws H1 locs1 → W p l e R s m args below meth c H1 locs1 cells slots Q (F0 m (pc + 3) ls (r.toList ++ rest))) : W p l e R s m args below meth c H locs cells slots Q (F0 m pc ls st0) := by
  obtain ⟨g1, g3, g4, g5, g6, g7⟩ := hL
  have hts := C.2.2.2.2
  have hC := hC0.map
  refine s_run0 (a0 := #[]) hA X hC (va_runS (As := As) (rest := rest) C (hM H.size) ⟨callB_of As.length hts (wall_good (fun _ h => h) g4) rfl rfl rfl (hts _ g3) (hts _ hl) ⟨g5, g6, g7⟩ hR, hts _ g1⟩ (mc_pre hK X hC hn) rfl rfl hls hst (lv_room hrest) hdg hcs) kk
/-- a static call of a nest mate's private method -/
theorem s_cN0 {y : MethodName} {host : String} {cy : ByteArray} {n' d index : Nat} {ret : Option FieldType} {As : List Value} {wc : va_W} {r : Option Value} {st0 : List Value} (C : Cx p m c cc nL s args own) (hK : KK D ty s) (hA : ∀ q : Nat, H0.size ≤ q → A q) (X : Wd D A H0 ws H locs)
    (hM : MC l D ty y cy n' ret d As wc r wc) (is : List Nat) (hC0 : pickP ws is wc) (hn : va_nd is = true) (hL : SL y cy n' ret As.length) (hl : Cond.methodLinkNest own index y host ∈ nestW) (hR : d + 1 ≤ R.frames ∧ 8 + (n' + 11) + 36 * d ≤ R.locals) (hcs : cells ≤ R.cells ∧ slots ≤ R.slots) (hls : ls.size = nL) (hst : st0 = As.reverse ++ rest) (hrest : (rest.map fun v => v.category).sum ≤ 8) (hdg : decode cc pc = .ok (.invokestatic index, 3))
    (kk : ∀ (H1 : Heap) (locs1 : List Loc), Wd D A H0 ws H1 locs1 → W p l e R s m args below meth c H1 locs1 cells slots Q (F0 m (pc + 3) ls (r.toList ++ rest))) : W p l e R s m args below meth c H locs cells slots Q (F0 m pc ls st0) := by
  obtain ⟨g1, g3, g4, g5, g6, g7⟩ := hL
  have hts := C.2.2.2.2
  have hC := hC0.map
  refine s_run0 (a0 := #[]) hA X hC (va_runSN (As := As) (rest := rest) C (hM H.size) ⟨va_cnB As.length hts (wall_good (fun _ h => h) g4) rfl rfl rfl (hK.2 _ hl) (hts _ g3) ⟨g5, g6, g7⟩ hR, hts _ g1, trivial⟩ (mc_pre hK X hC hn) rfl rfl hls hst (lv_room hrest) hdg hcs) kk
end Steps
