def SLW (y : MethodName) (cc : ByteArray) (n : Nat) (hh : List (Nat × Nat × Nat × Nat)) (k : Nat) : Prop := Cond.static y ∈ Wall ∧ Cond.initialized y.cls ∈ Wall ∧ Cond.codeWith y cc n (some .int) hh ∈ Wall ∧ y.cls ≠ "java/lang/invoke/MethodHandle" ∧ y.cls ≠ "java/lang/invoke/VarHandle" ∧ (parseMethodDescriptor y.desc).map (fun d => d.parameters.length) = some k
theorem wall_goodW {big : List Cond} (hb : ∀ w ∈ Wall, w ∈ big) {w0 : Cond} (h0 : w0 ∈ Wall) : GoodIn big (w0 :: Wall) := wall_good hb h0
section Steps6
variable {p : Program} {l : Launch} {e : Env} {R : Room} {s : State} {m : MethodId} {args : Array Value} {below : List Frame} {meth : Method} {c : Code} {H : Heap} {locs : List Loc} {cells slots : Nat} {Q : State → Prop}
variable {cc : ByteArray} {nL pc : Nat} {ls : Array Slot} {rest : List Value} {own : String} {D : va_G} {ty : Nat → ClassId} {A : Nat → Prop} {ws : va_W} {a : Nat}
theorem s_scr {b0 L : Nat} {xs : Nat → Int32} {i x : Int32} (C : Cx p m c cc nL s args own) (hX : va_X b0 L xs s s.heap) (hbl : b0 < s.heap.size) (hbA : ¬ A b0) (X : Wd D A s.heap ws H locs) (j : Nat) (hi : i = nI j) (hj : j < L) (hL : L < 2 ^ 31) (hx : xs j = x) (hdg : decode cc pc = .ok (.iaload, 1))
    (kk : W p l e R s m args below meth c H locs cells slots Q (F0 m (pc + 1) ls (.int x :: rest))) : W p l e R s m args below meth c H locs cells slots Q (F0 m pc ls (.int i :: .ref b0 :: rest)) := by
  subst hi
  refine va_sld C.1 C.2.1 hX hbl hbA X.2.2 (vp_in_nI hj (by omega)) hdg ?_
  rw [nI_clamp (by omega), hx]; exact kk
/-- a wrapper's call -/
theorem s_cW {y : MethodName} {cy : ByteArray} {n' index : Nat} {hh : List (Nat × Nat × Nat × Nat)} {As : List Value} {wc w1 ws' : va_W} {ms : List Bool} {r : Int32} {st0 : List Value} {sa : Nat → Nat} (C : Cx p m c cc nL s args own) (hK : KK D ty s) (hA : ∀ q : Nat, s.heap.size ≤ q → A q) (hZ : ZZ A s s.heap) (hE : EX sa s) (X : Wd D A s.heap ws H locs)
    (hM : MW l D ty y cy n' hh As wc r w1) (is : List Nat) (hC0 : pickP ws is wc) (hn : va_nd is = true) (hC9 : pickP ws' is w1) (hE9 : eqM ms ws ws') (hm : maskOK ms is = true) (hL : SLW y cy n' hh As.length) (hl : Cond.methodLink own index y ∈ Wall) (hR : 9 + 1 ≤ R.frames ∧ 8 + (n' + 11) + 36 * 9 ≤ R.locals) (hcs : cells + 1 ≤ R.cells ∧ slots + 6 ≤ R.slots) (hls : ls.size = nL) (hst : st0 = As.reverse ++ rest) (hrest : (rest.map fun v => v.category).sum ≤ 8) (hdg : decode cc pc = .ok (.invokestatic index, 3))
    (kk : ∀ (H1 : Heap) (locs1 : List Loc), Wd D A s.heap ws' H1 locs1 → W p l e R s m args below meth c H1 locs1 (cells + 1) (slots + 6) Q (F0 m (pc + 3) ls (.int r :: rest))) : W p l e R s m args below meth c H locs cells slots Q (F0 m pc ls st0) := by
  obtain ⟨g1, g3, g4, g5, g6, g7⟩ := hL
  have hts := C.2.2.2.2
  have hC := hC0.map
  have hC1 := hC9.map
  have hG : GoodIn Wall (Cond.codeWith y cy n' (some .int) hh :: Wall) := wall_good (fun _ h => h) g4
  have cw : vx_CSW R s args own index y cy n' (some .int) hh (Cond.codeWith y cy n' (some .int) hh :: Wall) rmW 1 6 As.length :=
    ⟨⟨rfl, rfl, hR.1, hR.2, pay_in hts hG, List.mem_cons_self⟩, hts _ g4, hts _ g3, ⟨g5, g6⟩, fun sig h => by rw [h] at g7; exact (Option.some.inj g7).symm, hts _ hl, hts _ g1⟩
  have hr := vx_runSX (p := p) (e := e) (below := below) (meth := meth) (locs := locs) (As := As) (rest := rest) (g := F0 m pc ls st0) C (hM H.size sa) cw (px_pre hK hA hZ hE X hC hn) rfl rfl hls hst (lv_room hrest) hdg hcs
  intro T hT Y
  rcases hr T hT Y with ⟨v, st₀, t, T', L, h0, Y', hL, e1, e2, ⟨⟨hv, hP1⟩, hz, hk⟩, st⟩ | ⟨q, st₀, t, T', L, E', ce, h0, Y', hL, e1, e2, hf, _⟩
  · cases hv
    rw [h0] at hz hk
    have hfree : ∀ q, va_A wc H.size q → A q := va_free X.2.1 X.2.2 hA is hC
    have hS1 : va_S A s.heap T'.heap (locs ++ L) := ⟨Nat.le_trans X.2.2.1 (by rw [e1]; exact hz), fun q h1 h2 => by rw [e1, hk q (Nat.lt_of_lt_of_le h1 X.2.2.1) (fun z => h2 (hfree q z))]; exact X.2.2.2.1 q h1 h2, fun q hq => by
      rcases List.mem_append.mp hq with h | h
      · exact X.2.2.2.2 q h
      · exact hfree _ (hL q h)⟩
    obtain ⟨t2, a1, b1⟩ := kk T'.heap (locs ++ L) (X.call1 hC hC1 hE9 hm (by rw [e1]; exact hP1) (fun q h1 h2 => by rw [e1]; exact hk q h1 h2) hS1) T' rfl Y'
    exact ⟨t2, st t2 a1, b1⟩
  · exact hf.elim
end Steps6
theorem thr_saves (g : F1) (sv : Nat) : f_X7_saves_o g sv 1 = g 1 := by
  unfold f_X7_saves_o
  rw [pk_un (by decide)]
  unfold v_X7_saves_2
  split
  · exact pk_un (by decide)
  · rfl
theorem cmp0 {x y : Int64} (h : x = y) : lg_cmp x y = 0 := by subst h; simp [lg_cmp]
/-- a boolean out of a number of the script -/
def bo (x : Int32) : Int32 := if x = 0 then 0 else 1
theorem bo_b (x : Int32) : isB (bo x) := isB_ite isB0 isB1
theorem slw_L_setSpeed : SLW yL_setSpeed cL_setSpeed 4 [(0, 9, 12, 13)] 3 := ⟨wall_of (by decide +kernel) (by decide +kernel), wall_of (by decide +kernel) (by decide +kernel), wall_of (by decide +kernel) (by decide +kernel), by decide +kernel, by decide +kernel, by decide +kernel⟩
theorem slw_L_addSegment : SLW yL_addSegment cL_addSegment 6 [(0, 12, 15, 13), (0, 12, 19, 19)] 5 := ⟨wall_of (by decide +kernel) (by decide +kernel), wall_of (by decide +kernel) (by decide +kernel), wall_of (by decide +kernel) (by decide +kernel), by decide +kernel, by decide +kernel, by decide +kernel⟩
theorem slw_L_setDemand : SLW yL_setDemand cL_setDemand 4 [(0, 9, 12, 13)] 3 := ⟨wall_of (by decide +kernel) (by decide +kernel), wall_of (by decide +kernel) (by decide +kernel), wall_of (by decide +kernel) (by decide +kernel), by decide +kernel, by decide +kernel, by decide +kernel⟩
theorem slw_L_plan : SLW yL_plan cL_plan 5 [(0, 10, 13, 13), (0, 10, 17, 19)] 4 := ⟨wall_of (by decide +kernel) (by decide +kernel), wall_of (by decide +kernel) (by decide +kernel), wall_of (by decide +kernel) (by decide +kernel), by decide +kernel, by decide +kernel, by decide +kernel⟩
theorem slw_L_setFault : SLW yL_setFault cL_setFault 5 [(0, 17, 20, 32)] 4 := ⟨wall_of (by decide +kernel) (by decide +kernel), wall_of (by decide +kernel) (by decide +kernel), wall_of (by decide +kernel) (by decide +kernel), by decide +kernel, by decide +kernel, by decide +kernel⟩
theorem slw_L_run : SLW yL_run cL_run 4 [(0, 9, 12, 13)] 3 := ⟨wall_of (by decide +kernel) (by decide +kernel), wall_of (by decide +kernel) (by decide +kernel), wall_of (by decide +kernel) (by decide +kernel), by decide +kernel, by decide +kernel, by decide +kernel⟩
theorem slw_L_stopDistance : SLW yL_stopDistance cL_stopDistance 7 [(0, 14, 17, 13)] 6 := ⟨wall_of (by decide +kernel) (by decide +kernel), wall_of (by decide +kernel) (by decide +kernel), wall_of (by decide +kernel) (by decide +kernel), by decide +kernel, by decide +kernel, by decide +kernel⟩
theorem slw_L_car : SLW yL_car cL_car 4 [(0, 9, 12, 13)] 3 := ⟨wall_of (by decide +kernel) (by decide +kernel), wall_of (by decide +kernel) (by decide +kernel), wall_of (by decide +kernel) (by decide +kernel), by decide +kernel, by decide +kernel, by decide +kernel⟩
theorem slw_L_wheel : SLW yL_wheel cL_wheel 5 [(0, 10, 13, 32), (0, 10, 17, 13)] 4 := ⟨wall_of (by decide +kernel) (by decide +kernel), wall_of (by decide +kernel) (by decide +kernel), wall_of (by decide +kernel) (by decide +kernel), by decide +kernel, by decide +kernel, by decide +kernel⟩
theorem slw_L_friction : SLW yL_friction cL_friction 4 [(0, 9, 12, 32)] 3 := ⟨wall_of (by decide +kernel) (by decide +kernel), wall_of (by decide +kernel) (by decide +kernel), wall_of (by decide +kernel) (by decide +kernel), by decide +kernel, by decide +kernel, by decide +kernel⟩
theorem slw_L_frictionFor : SLW yL_frictionFor cL_frictionFor 5 [(0, 10, 13, 13)] 4 := ⟨wall_of (by decide +kernel) (by decide +kernel), wall_of (by decide +kernel) (by decide +kernel), wall_of (by decide +kernel) (by decide +kernel), by decide +kernel, by decide +kernel, by decide +kernel⟩
theorem slw_L_segment : SLW yL_segment cL_segment 5 [(0, 10, 13, 32), (0, 10, 17, 13)] 4 := ⟨wall_of (by decide +kernel) (by decide +kernel), wall_of (by decide +kernel) (by decide +kernel), wall_of (by decide +kernel) (by decide +kernel), by decide +kernel, by decide +kernel, by decide +kernel⟩
theorem slw_L_event : SLW yL_event cL_event 5 [(0, 10, 13, 32), (0, 10, 17, 13)] 4 := ⟨wall_of (by decide +kernel) (by decide +kernel), wall_of (by decide +kernel) (by decide +kernel), wall_of (by decide +kernel) (by decide +kernel), by decide +kernel, by decide +kernel, by decide +kernel⟩
theorem slw_L_undo : SLW yL_undo cL_undo 3 [(0, 8, 11, 19)] 2 := ⟨wall_of (by decide +kernel) (by decide +kernel), wall_of (by decide +kernel) (by decide +kernel), wall_of (by decide +kernel) (by decide +kernel), by decide +kernel, by decide +kernel, by decide +kernel⟩
