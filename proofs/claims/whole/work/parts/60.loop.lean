def R_law : String := "AntilockBrakesLaw"
def lw_P (b : Addr) (xs : List Int32) (args : Array Value) (s : State) : Prop := args = #[.ref b] ∧ s.IntsAt b xs ∧ xs.length ≤ 2560 ∧ (Jvm.Cond.and given_1 narrow_1).before args s = true
def lw_Q (_ : Array Value) (s : State) (o : Outcome) (t : State) : Prop := o = .returned (some (.int 1)) ∧ Framed s o t [] 601024 7293034
def lw_Z (below : List Frame) (a : Array Value) (s : State) : State → Prop := fun t => ∃ o, t.status = .running ∧ Ended t below o ∧ lw_Q a s o t
/-- the law's own end, with 1 on the stack, nothing written that was there before, its room as the claim has it -/
theorem lw_ret {p : Program} {l : Launch} {e : Env} {s : State} {m : MethodId} {below : List Frame} {meth : Method} {c : Code} {b : Nat} (hx : p.tables.exec = Jvm.exec) (hb : c.code = code) (hr : meth.sig.returnType = ret) (hlocks : meth.locks = false) {pc : Nat} {H : Heap} {ls : Array Slot} (hdg : decode code pc = .ok (.ireturn, 1)) : W p l e room_1 s m #[Value.ref b] below meth c H [] 601024 7293034 (lw_Z below #[Value.ref b] s) (F0 m pc ls [.int 1]) := by
  intro T hT X
  obtain ⟨fs, hret, hrun, hended, hW, hframe⟩ := X.leave (v := some (.int 1)) (hlocks := hlocks) (fun h => by rw [hr] at h; cases h)
  have hmeth' : T.vm.method? m = some meth := X.method'
  refine ⟨T.setFrames fs, ?_, .returned (some (.int 1)), hrun, hended, rfl, ⟨_, rfl⟩, hW, hframe⟩
  jvm_step X.here [X.here.top, hx, hb, hdg, hmeth', hr, ret, narrow_b1]
  (try refine ⟨rfl, ?_⟩); (try refine ⟨rfl, ?_⟩)
  first | (intro acts; rw [hret _ acts rfl rfl rfl]) | rw [hret _ _ rfl rfl rfl]
  exact Steps.refl _
/-- what holds at the law's entry: the machine, the code, the tables' words (any of lw_tbl by 'hts w (by decide +kernel)'), the script of L ints xs at the cell b, what the Statement gives of the start (any of its parts by flat_of_before) -/
def lw_At (p : Program) (s : State) (m : MethodId) (meth : Method) (c : Code) (b L : Nat) (xs : Nat → Int32) : Prop :=
  p.tables.exec = Jvm.exec ∧ c.code = code ∧ meth.sig.returnType = ret ∧ c.maxLocals = 7 ∧ s.vm.findClass R_law = some m.cls ∧ (∀ w ∈ lw_tbl, w.before #[Value.ref b] s = true) ∧ va_X b L xs s s.heap ∧ b < s.heap.size ∧ meth.locks = false ∧ (Jvm.Cond.and given_1 narrow_1).before #[Value.ref b] s = true
/-! the switch and the loop of the law -/
set_option maxHeartbeats 4000000 in
set_option maxRecDepth 100000 in
theorem law_switch (l : Launch) (hst : l.stackTraces = false) {p : Program} {e : Env} {s : State} {m : MethodId} {args : Array Value} {below : List Frame} {meth : Method} {c : Code} {D : va_G} {ty : Nat → ClassId} {A : Nat → Prop} {Q : State → Prop} {sa : Nat → Nat} {b0 L i : Nat} {xs : Nat → Int32} (C : Cx p m c cL_law 7 s args RL) (hK : KK D ty s) (hA : ∀ q : Nat, s.heap.size ≤ q → A q) (hZ : ZZ A s s.heap) (hE : EX sa s) (hX : va_X b0 L xs s s.heap) (hbl : b0 < s.heap.size) (hbA : ¬ A b0) (hL : L ≤ 2560) (hi : i + 5 ≤ L) {ls : Array Slot} {H : Heap} {locs : List Loc} {cells slots : Nat} (hcc : cells + 1 ≤ room_1.cells ∧ slots + 6 ≤ room_1.slots) (h : Nat) (sv_ : Nat) (sn : Nat) (ou : Nat) (o : Nat) (a : Nat) (b : Nat) (c_ : Nat) (ad : Nat → Nat) (ae : Nat → Nat) (af0 : Nat → Nat) (af1 : Nat → Nat) (af2 : Nat → Nat) (u : CarS) (ut : CarS) (u0 : CarS) (u1 : CarS) (u2 : CarS) (g : F1) (n : F1) (pa : F1) (qa : F1) (hs : Int64) (f : Nat → Int64) {tb : Int} (ht : 0 ≤ tb) (htb : tb + 5000 ≤ 2000000000) (hr : RS tb sn u u0 u1 u2 g n pa) (hl : lv_has ls 7 [(0, .ref b0), (1, .ref h), (2, .ref o), (3, .ref ou), (4, .int (nI i))]) (X : Wd D A s.heap (LWg ty h sv_ sn (af0 0) (af1 0) (af2 0) ou o a b c_ ad ae af0 af1 af2 u ut u0 u1 u2 g n pa qa hs f) H locs) (K : Kon p l e s m args below meth c D ty A Q b0 i cells slots h sv_ ou o a b c_ ad ae (tb + 5000)) (x : Int32) : W p l e room_1 s m args below meth c H locs cells slots Q (F0 m 39 ls [.int x]) := by
  have hx := C.1
  have hb := C.2.1
  by_cases c0 : x.toInt < 0 ∨ 20 < x.toInt
  · refine lv_tableOut (tgt := 1199) hx hb dL_law_39 c0 (by decide) ?_
    exact W.widen (k := cells + 1) (n := slots + 6) (by omega) (by omega) (K ls H locs sn af0 af1 af2 u ut u0 u1 u2 g n pa qa hs f hl (hr.same (by omega) rfl Ag.rfl') X)
  have c1 : ¬ x.toInt < 0 := fun z => c0 (Or.inl z)
  have c2 : ¬ 20 < x.toInt := fun z => c0 (Or.inr z)
  rcases (show x.toInt = 0 ∨ x.toInt = 1 ∨ x.toInt = 2 ∨ x.toInt = 3 ∨ x.toInt = 4 ∨ x.toInt = 5 ∨ x.toInt = 6 ∨ x.toInt = 7 ∨ x.toInt = 8 ∨ x.toInt = 9 ∨ x.toInt = 10 ∨ x.toInt = 11 ∨ x.toInt = 12 ∨ x.toInt = 13 ∨ x.toInt = 14 ∨ x.toInt = 15 ∨ x.toInt = 16 ∨ x.toInt = 17 ∨ x.toInt = 18 ∨ x.toInt = 19 ∨ x.toInt = 20 by omega) with q | q | q | q | q | q | q | q | q | q | q | q | q | q | q | q | q | q | q | q | q
  · refine lv_tableIn (off := 97) (tgt := 136) hx hb dL_law_39 c1 c2 (by rw [q]; rfl) (by decide) ?_
    exact sp_setSpeed l hst C hK hA hZ hE hX hbl hbA hL hi hcc h sv_ sn ou o a b c_ ad ae af0 af1 af2 u ut u0 u1 u2 g n pa qa hs f ht htb hr hl X K
  · refine lv_tableIn (off := 153) (tgt := 192) hx hb dL_law_39 c1 c2 (by rw [q]; rfl) (by decide) ?_
    exact sp_addSegment l hst C hK hA hZ hE hX hbl hbA hL hi hcc h sv_ sn ou o a b c_ ad ae af0 af1 af2 u ut u0 u1 u2 g n pa qa hs f ht htb hr hl X K
  · refine lv_tableIn (off := 233) (tgt := 272) hx hb dL_law_39 c1 c2 (by rw [q]; rfl) (by decide) ?_
    exact sp_setDemand l hst C hK hA hZ hE hX hbl hbA hL hi hcc h sv_ sn ou o a b c_ ad ae af0 af1 af2 u ut u0 u1 u2 g n pa qa hs f ht htb hr hl X K
  · refine lv_tableIn (off := 289) (tgt := 328) hx hb dL_law_39 c1 c2 (by rw [q]; rfl) (by decide) ?_
    exact sp_plan l hst C hK hA hZ hE hX hbl hbA hL hi hcc h sv_ sn ou o a b c_ ad ae af0 af1 af2 u ut u0 u1 u2 g n pa qa hs f ht htb hr hl X K
  · refine lv_tableIn (off := 357) (tgt := 396) hx hb dL_law_39 c1 c2 (by rw [q]; rfl) (by decide) ?_
    exact sp_setFault l hst C hK hA hZ hE hX hbl hbA hL hi hcc h sv_ sn ou o a b c_ ad ae af0 af1 af2 u ut u0 u1 u2 g n pa qa hs f ht htb hr hl X K
  · refine lv_tableIn (off := 448) (tgt := 487) hx hb dL_law_39 c1 c2 (by rw [q]; rfl) (by decide) ?_
    exact sp_setOn l hst C hK hA hZ hE hX hbl hbA hL hi hcc h sv_ sn ou o a b c_ ad ae af0 af1 af2 u ut u0 u1 u2 g n pa qa hs f ht htb hr hl X K
  · refine lv_tableIn (off := 489) (tgt := 528) hx hb dL_law_39 c1 c2 (by rw [q]; rfl) (by decide) ?_
    exact sp_repair l hst C hK hA hZ hE hX hbl hbA hL hi hcc h sv_ sn ou o a b c_ ad ae af0 af1 af2 u ut u0 u1 u2 g n pa qa hs f ht htb hr hl X K
  · refine lv_tableIn (off := 502) (tgt := 541) hx hb dL_law_39 c1 c2 (by rw [q]; rfl) (by decide) ?_
    exact sp_run l hst C hK hA hZ hE hX hbl hbA hL hi hcc h sv_ sn ou o a b c_ ad ae af0 af1 af2 u ut u0 u1 u2 g n pa qa hs f ht htb hr hl X K
  · refine lv_tableIn (off := 558) (tgt := 597) hx hb dL_law_39 c1 c2 (by rw [q]; rfl) (by decide) ?_
    exact sp_stop l hst C hK hA hZ hE hX hbl hbA hL hi hcc h sv_ sn ou o a b c_ ad ae af0 af1 af2 u ut u0 u1 u2 g n pa qa hs f ht htb hr hl X K
  · refine lv_tableIn (off := 571) (tgt := 610) hx hb dL_law_39 c1 c2 (by rw [q]; rfl) (by decide) ?_
    exact sp_stopDistance l hst C hK hA hZ hE hX hbl hbA hL hi hcc h sv_ sn ou o a b c_ ad ae af0 af1 af2 u ut u0 u1 u2 g n pa qa hs f ht htb hr hl X K
  · refine lv_tableIn (off := 679) (tgt := 718) hx hb dL_law_39 c1 c2 (by rw [q]; rfl) (by decide) ?_
    exact sp_car l hst C hK hA hZ hE hX hbl hbA hL hi hcc h sv_ sn ou o a b c_ ad ae af0 af1 af2 u ut u0 u1 u2 g n pa qa hs f ht htb hr hl X K
  · refine lv_tableIn (off := 735) (tgt := 774) hx hb dL_law_39 c1 c2 (by rw [q]; rfl) (by decide) ?_
    exact sp_wheel l hst C hK hA hZ hE hX hbl hbA hL hi hcc h sv_ sn ou o a b c_ ad ae af0 af1 af2 u ut u0 u1 u2 g n pa qa hs f ht htb hr hl X K
  · refine lv_tableIn (off := 803) (tgt := 842) hx hb dL_law_39 c1 c2 (by rw [q]; rfl) (by decide) ?_
    exact sp_friction l hst C hK hA hZ hE hX hbl hbA hL hi hcc h sv_ sn ou o a b c_ ad ae af0 af1 af2 u ut u0 u1 u2 g n pa qa hs f ht htb hr hl X K
  · refine lv_tableIn (off := 859) (tgt := 898) hx hb dL_law_39 c1 c2 (by rw [q]; rfl) (by decide) ?_
    exact sp_frictionFor l hst C hK hA hZ hE hX hbl hbA hL hi hcc h sv_ sn ou o a b c_ ad ae af0 af1 af2 u ut u0 u1 u2 g n pa qa hs f ht htb hr hl X K
  · refine lv_tableIn (off := 927) (tgt := 966) hx hb dL_law_39 c1 c2 (by rw [q]; rfl) (by decide) ?_
    exact sp_segments l hst C hK hA hZ hE hX hbl hbA hL hi hcc h sv_ sn ou o a b c_ ad ae af0 af1 af2 u ut u0 u1 u2 g n pa qa hs f ht htb hr hl X K
  · refine lv_tableIn (off := 940) (tgt := 979) hx hb dL_law_39 c1 c2 (by rw [q]; rfl) (by decide) ?_
    exact sp_segment l hst C hK hA hZ hE hX hbl hbA hL hi hcc h sv_ sn ou o a b c_ ad ae af0 af1 af2 u ut u0 u1 u2 g n pa qa hs f ht htb hr hl X K
  · refine lv_tableIn (off := 1008) (tgt := 1047) hx hb dL_law_39 c1 c2 (by rw [q]; rfl) (by decide) ?_
    exact sp_planned l hst C hK hA hZ hE hX hbl hbA hL hi hcc h sv_ sn ou o a b c_ ad ae af0 af1 af2 u ut u0 u1 u2 g n pa qa hs f ht htb hr hl X K
  · refine lv_tableIn (off := 1021) (tgt := 1060) hx hb dL_law_39 c1 c2 (by rw [q]; rfl) (by decide) ?_
    exact sp_events l hst C hK hA hZ hE hX hbl hbA hL hi hcc h sv_ sn ou o a b c_ ad ae af0 af1 af2 u ut u0 u1 u2 g n pa qa hs f ht htb hr hl X K
  · refine lv_tableIn (off := 1034) (tgt := 1073) hx hb dL_law_39 c1 c2 (by rw [q]; rfl) (by decide) ?_
    exact sp_event l hst C hK hA hZ hE hX hbl hbA hL hi hcc h sv_ sn ou o a b c_ ad ae af0 af1 af2 u ut u0 u1 u2 g n pa qa hs f ht htb hr hl X K
  · refine lv_tableIn (off := 1102) (tgt := 1141) hx hb dL_law_39 c1 c2 (by rw [q]; rfl) (by decide) ?_
    exact sp_undo l hst C hK hA hZ hE hX hbl hbA hL hi hcc h sv_ sn ou o a b c_ ad ae af0 af1 af2 u ut u0 u1 u2 g n pa qa hs f ht htb hr hl X K
  · refine lv_tableIn (off := 1146) (tgt := 1185) hx hb dL_law_39 c1 c2 (by rw [q]; rfl) (by decide) ?_
    exact sp_digest l hst C hK hA hZ hE hX hbl hbA hL hi hcc h sv_ sn ou o a b c_ ad ae af0 af1 af2 u ut u0 u1 u2 g n pa qa hs f ht htb hr hl X K
theorem n5 (k : Nat) : nI k + Int32.ofInt 5 = nI (k + 5) := nI_add k 5
theorem sub5 {k : Nat} (hk : k ≤ 2560) : (nI k - 5).toInt = (k : Int) - 5 := by
  have e : (nI k).toInt = k := nI_toInt (by omega)
  have e5 : (5 : Int32).toInt = 5 := rfl
  rw [tS (by rw [e, e5]; omega) (by rw [e, e5]; omega), e, e5]
set_option maxHeartbeats 4000000 in
set_option maxRecDepth 100000 in
theorem law_exit (l : Launch) (hst : l.stackTraces = false) {p : Program} {e : Env} {s : State} {m : MethodId} {below : List Frame} {meth : Method} {c : Code} {D : va_G} {ty : Nat → ClassId} {A : Nat → Prop} {sa : Nat → Nat} {b0 L : Nat} {xs : Nat → Int32} (C : Cx p m c cL_law 7 s #[Value.ref b0] RL) (hK : KK D ty s) (hA : ∀ q : Nat, s.heap.size ≤ q → A q) (hZ : ZZ A s s.heap) (hE : EX sa s) (hX : va_X b0 L xs s s.heap) (hbl : b0 < s.heap.size) (hbA : ¬ A b0) (hL : L ≤ 2560)  (hret : meth.sig.returnType = ret) (hlk : meth.locks = false) (hAr : ∀ q : Nat, A q → s.heap.size ≤ q) {ls : Array Slot} {H : Heap} {locs : List Loc} {cells slots : Nat} (h1 : cells ≤ 601024) (h2 : slots ≤ 7293034) {ws : va_W} (X : Wd D A s.heap ws H locs) : W p l e room_1 s m #[Value.ref b0] below meth c H locs cells slots (lw_Z below #[Value.ref b0] s) (F0 m 1205 ls []) := by
  have hx := C.1
  have hb := C.2.1
  refine lv_iconst (v := 1) hx hb dL_law_1205 (by decide) ?_
  refine va_forget (fun q hq => hAr _ (X.2.2.2.2 q hq)) ?_
  refine W.widen (k := 601024) (n := 7293034) h1 h2 ?_
  exact lw_ret hx hb hret hlk dL_law_1206
set_option maxHeartbeats 4000000 in
set_option maxRecDepth 100000 in
theorem law_loop (l : Launch) (hst : l.stackTraces = false) {p : Program} {e : Env} {s : State} {m : MethodId} {below : List Frame} {meth : Method} {c : Code} {D : va_G} {ty : Nat → ClassId} {A : Nat → Prop} {sa : Nat → Nat} {b0 L : Nat} {xs : Nat → Int32} (C : Cx p m c cL_law 7 s #[Value.ref b0] RL) (hK : KK D ty s) (hA : ∀ q : Nat, s.heap.size ≤ q → A q) (hZ : ZZ A s s.heap) (hE : EX sa s) (hX : va_X b0 L xs s s.heap) (hbl : b0 < s.heap.size) (hbA : ¬ A b0) (hL : L ≤ 2560)  (hret : meth.sig.returnType = ret) (hlk : meth.locks = false) (hAr : ∀ q : Nat, A q → s.heap.size ≤ q) (h sv_ ou o a b c_ : Nat) (ad ae : Nat → Nat) : ∀ (q st : Nat), L ≤ 5 * st + 5 * q → 5 * st ≤ L + 4 → ∀ (ls : Array Slot) (H : Heap) (locs : List Loc) (sn : Nat) (af0 af1 af2 : Nat → Nat) (u ut u0 u1 u2 : CarS) (g n pa qa : F1) (hs : Int64) (f : Nat → Int64), lv_has ls 7 [(0, .ref b0), (1, .ref h), (2, .ref o), (3, .ref ou), (4, .int (nI (5 * st)))] → RS (5000 * (st : Int)) sn u u0 u1 u2 g n pa → Wd D A s.heap (LWg ty h sv_ sn (af0 0) (af1 0) (af2 0) ou o a b c_ ad ae af0 af1 af2 u ut u0 u1 u2 g n pa qa hs f) H locs → W p l e room_1 s m #[Value.ref b0] below meth c H locs (117 + st) (2744 + 6 * st) (lw_Z below #[Value.ref b0] s) (F0 m 23 ls []) := by
  have hx := C.1
  have hb := C.2.1
  intro q
  induction q with
  | zero =>
    intro st hq hs5 ls H locs sn af0 af1 af2 u ut u0 u1 u2 g n pa qa hs f hl hr X
    refine lv_iload hx hb dL_law_23 (lv_at hl 4 rfl) ?_
    refine lv_aload_n hx hb dL_law_25 rfl (lv_at hl 0 rfl) ?_
    refine va_slen hx hb hX hbl hbA X.2.2 dL_law_26 ?_
    refine lv_iconst (v := 5) hx hb dL_law_27 (by decide) ?_
    refine lv_isub hx hb dL_law_28 ?_
    refine lv_icmp_gt (tgt := 1205) hx hb dL_law_29 (by decide) (fun _ => ?_) (fun c0 => absurd ?_ c0)
    · exact law_exit l hst C hK hA hZ hE hX hbl hbA hL hret hlk hAr (by omega) (by omega) X
    · refine Int32.lt_iff_toInt_lt.mpr ?_
      show (nI L - 5).toInt < (nI (5 * st)).toInt
      rw [sub5 hL, nI_toInt (by omega)]; omega
  | succ q ih =>
    intro st hq hs5 ls H locs sn af0 af1 af2 u ut u0 u1 u2 g n pa qa hs f hl hr X
    refine lv_iload hx hb dL_law_23 (lv_at hl 4 rfl) ?_
    refine lv_aload_n hx hb dL_law_25 rfl (lv_at hl 0 rfl) ?_
    refine va_slen hx hb hX hbl hbA X.2.2 dL_law_26 ?_
    refine lv_iconst (v := 5) hx hb dL_law_27 (by decide) ?_
    refine lv_isub hx hb dL_law_28 ?_
    refine lv_icmp_gt (tgt := 1205) hx hb dL_law_29 (by decide) (fun _ => ?_) (fun c0 => ?_)
    · exact law_exit l hst C hK hA hZ hE hX hbl hbA hL hret hlk hAr (by omega) (by omega) X
    · have hi : 5 * st + 5 ≤ L := by
        have z : ¬ (nI L - 5).toInt < (nI (5 * st)).toInt := fun y => c0 (Int32.lt_iff_toInt_lt.mpr y)
        rw [sub5 hL, nI_toInt (by omega)] at z
        omega
      refine lv_aload_n hx hb dL_law_32 rfl (lv_at hl 0 rfl) ?_
      refine lv_iload hx hb dL_law_33 (lv_at hl 4 rfl) ?_
      refine s_scr (x := xs (5 * st)) C hX hbl hbA X (5 * st) rfl (by omega) (by omega) rfl dL_law_35 ?_
      refine lv_bipush (v := 31) hx hb dL_law_36 (by decide) ?_
      refine lv_iand hx hb dL_law_38 ?_
      refine law_switch (i := 5 * st) l hst C hK hA hZ hE hX hbl hbA hL hi ⟨show 117 + st + 1 ≤ 601024 by omega, show 2744 + 6 * st + 6 ≤ 7293034 by omega⟩ h sv_ sn ou o a b c_ ad ae af0 af1 af2 u ut u0 u1 u2 g n pa qa hs f (tb := 5000 * (st : Int)) (by omega) (by omega) hr hl X ?_ _
      intro ls H locs sn af0 af1 af2 u ut u0 u1 u2 g n pa qa hs f hl hr X
      refine lv_iinc (k := 4) (v := nI (5 * (st + 1))) (lv' := [(4, .int (nI (5 * (st + 1)))), (0, .ref b0), (1, .ref h), (2, .ref o), (3, .ref ou)]) hx hb dL_law_1199 hl rfl (n5 (5 * st)) (by decide) rfl (fun ls hl => ?_)
      refine lv_goto (tgt := 23) hx hb dL_law_1202 (by decide) ?_
      exact ih (st + 1) (by omega) (by omega) ls H locs sn af0 af1 af2 u ut u0 u1 u2 g n pa qa hs f (lv_sub hl [1, 2, 3, 4, 0] rfl) (by rw [show (5000 * ((st + 1 : Nat) : Int)) = 5000 * (st : Int) + 5000 by omega]; exact hr) X
