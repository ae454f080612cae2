/-! what the objects hold, by rows of numbers; a wheel's row in the reference's order: W P STATE TICKS CYCLES VALVE LOCKED OUT SUSPICION FAULTY MEASURED, then acceleration, estimated slip, grip, next phase -/
abbrev F1 : Type := Nat → Int32
def whE (w : F1) (am : Nat) : va_E := .inr (5, [.int (w 0), .int (w 1), .int (w 2), .int (w 3), .int (w 4), .int (w 5), .int (w 6), .int (w 8), .int (w 7), .int (w 9), .ref am, .int (w 10), .int (w 11), .int (w 12), .int (w 13), .int (w 14)])
def loE (fi lc t k v : Nat) : va_E := .inr (2, [.ref t, .ref k, .ref v, .int (nI fi), .int (nI lc)])
def roE (cn s l r : Nat) : va_E := .inr (3, [.ref s, .ref l, .ref r, .int (nI cn)])
def scE (pn t d : Nat) : va_E := .inr (4, [.ref t, .ref d, .int (nI pn)])
def ctE (g : F1) (aw al : Nat) : va_E := .inr (1, [.ref aw, .ref al, .int (g 4), .int (g 0), .int (g 1), .int (g 2), .int (g 3), .int (g 5)])
def caE (g : F1) (ct aw al ro sc : Nat) : va_E := .inr (0, [.ref ct, .ref aw, .ref al, .ref ro, .ref sc, .int (g 0), .int (g 1), .int (g 2), .int (g 3)])
def abE (sn nw tr sv : Nat) : va_E := .inr (6, [.ref nw, .ref tr, .ref sv, .int (nI sn)])
def moE (g : F1) (h : Int64) (a b c : Nat) : va_E := .inr (7, [.ref a, .ref b, .ref c, .int (g 0), .int (g 1), .long h])
def arE (ty : Nat → ClassId) (n : Nat) (f : F1) : va_E := .inl (ty 0, n, .inl f)
def sel4 (a0 a1 a2 a3 : Nat) : Nat → Option Nat := fun k => match k with
  | 0 => some a0
  | 1 => some a1
  | 2 => some a2
  | _ => some a3
def sel3 (a0 a1 a2 : Nat) : Nat → Option Nat := fun k => match k with
  | 0 => some a0
  | 1 => some a1
  | _ => some a2
def waE (ty : Nat → ClassId) (a0 a1 a2 a3 : Nat) : va_E := .inl (ty 2, 4, .inr (.inr (.inr (.inr (sel4 a0 a1 a2 a3)))))
def ccE (ty : Nat → ClassId) (a0 a1 a2 : Nat) : va_E := .inl (ty 1, 3, .inr (.inr (.inr (.inr (sel3 a0 a1 a2)))))
def laE (ty : Nat → ClassId) (f : Nat → Int64) : va_E := .inl (ty 3, 1, .inr (.inl f))
def mx (x y : Int32) : Int32 := if x < y then y else x
def mn (x y : Int32) : Int32 := if y < x then y else x
def lgOK (fi lc : Nat) : Prop := fi < 40 ∧ lc ≤ 40
def rdOK (cn : Nat) : Prop := 1 ≤ cn ∧ cn ≤ 12
def pnOK (pn : Nat) : Prop := pn ≤ 10
/-- how many measured values a wheel keeps -/
def kpOK (w : F1) : Prop := 0 ≤ (w 10).toInt ∧ (w 10).toInt ≤ 5
theorem kp_upd {w : F1} {k : Nat} {v : Int32} (h : kpOK w) (hk : 10 ≠ k := by decide) : kpOK (upd w k v) := by
  unfold kpOK upd; rw [if_neg hk]; exact h
theorem kp_of {w : F1} {v : Int32} (h : 0 ≤ v.toInt ∧ v.toInt ≤ 5) (e : w 10 = v) : kpOK w := by unfold kpOK; rw [e]; exact h
/-- a boolean's number -/
def isB (x : Int32) : Prop := x = 0 ∨ x = 1
theorem nar_b {v : Int32} (h : isB v) : narrow .boolean (.int v) = .int v := by rcases h with rfl | rfl <;> rfl
theorem fit_b {v : Int32} (h : isB v) : fits .boolean (.int v) = true := by rcases h with rfl | rfl <;> rfl
theorem and_b {v : Int32} (h : isB v) : v &&& 1 = v := by rcases h with rfl | rfl <;> rfl
theorem isB_ite {c : Prop} [Decidable c] {a b : Int32} (ha : isB a) (hb : isB b) : isB (if c then a else b) := by split <;> assumption
theorem isB0 : isB 0 := Or.inl rfl
theorem isB1 : isB 1 := Or.inr rfl
theorem sw_out {x : Int32} {lo : Int} (n : Nat) (h : ∀ k : Nat, k < n → ¬ x = Int32.ofInt (lo + k)) : x.toInt < lo ∨ lo + n - 1 < x.toInt := by
  rcases Int.lt_or_le x.toInt lo with h1 | h1
  · exact Or.inl h1
  · rcases Int.lt_or_le (lo + n - 1) x.toInt with h2 | h2
    · exact Or.inr h2
    · exfalso
      have e : lo + ((x.toInt - lo).toNat : Int) = x.toInt := by omega
      refine h (x.toInt - lo).toNat (by omega) ?_
      rw [e, Int32.ofInt_toInt]
theorem lk_out2 {x : Int32} {a b d : Int} (h0 : ¬ x = 0) (h1 : ¬ x = 1) : Op.lookupswitch.offset (#[(0, a), (1, b)] : Array (Int × Int)).toList d x.toInt = d := by
  show Op.lookupswitch.offset [(0, a), (1, b)] d x.toInt = d
  rw [Op.lookupswitch.offset_cons, if_neg, Op.lookupswitch.offset_cons, if_neg, Op.lookupswitch.offset_nil]
  · intro q; exact h1 (Int32.toInt_inj.mp (by rw [← q]; rfl))
  · intro q; exact h0 (Int32.toInt_inj.mp (by rw [← q]; rfl))
theorem sw_out4 {x : Int32} (h1 : ¬ x = 1) (h2 : ¬ x = 2) (h3 : ¬ x = 3) (h4 : ¬ x = 4) : x.toInt < 1 ∨ 4 < x.toInt := by
  have := sw_out (x := x) (lo := 1) 4 (fun k hk => by rcases (show k = 0 ∨ k = 1 ∨ k = 2 ∨ k = 3 by omega) with rfl | rfl | rfl | rfl <;> assumption)
  simpa using this
theorem sw_out40 {x : Int32} (h1 : ¬ x = 0) (h2 : ¬ x = 1) (h3 : ¬ x = 2) (h4 : ¬ x = 3) : x.toInt < 0 ∨ 3 < x.toInt := by
  have := sw_out (x := x) (lo := 0) 4 (fun k hk => by rcases (show k = 0 ∨ k = 1 ∨ k = 2 ∨ k = 3 by omega) with rfl | rfl | rfl | rfl <;> assumption)
  simpa using this
theorem sw_out5 {x : Int32} (h0 : ¬ x = 0) (h1 : ¬ x = 1) (h2 : ¬ x = 2) (h3 : ¬ x = 3) (h4 : ¬ x = 4) : x.toInt < 0 ∨ 4 < x.toInt := by
  have := sw_out (x := x) (lo := 0) 5 (fun k hk => by rcases (show k = 0 ∨ k = 1 ∨ k = 2 ∨ k = 3 ∨ k = 4 by omega) with rfl | rfl | rfl | rfl | rfl <;> assumption)
  simpa using this
section Steps2
variable {p : Program} {l : Launch} {e : Env} {R : Room} {s : State} {m : MethodId} {args : Array Value} {below : List Frame} {meth : Method} {c : Code} {H : Heap} {locs : List Loc} {cells slots : Nat} {Q : State → Prop}
variable {cc : ByteArray} {nL pc : Nat} {ls : Array Slot} {rest : List Value} {own : String} {D : va_G} {ty : Nat → ClassId} {A : Nat → Prop} {H0 : Heap} {ws : va_W} {a : Nat}
theorem s_iast {n : Nat} {f : Nat → Int32} {i x : Int32} (C : Cx p m c cc nL s args own) (hK : KK D ty s) (X : Wd D A H0 ws H locs) (q0 : Nat) (he : ws[q0]? = some (a, .inl (ty 0, n, .inl f))) (hin : vp_in i n) (hdg : decode cc pc = .ok (.iastore, 1))
    (kk : ∀ (H1 : Heap) (locs1 : List Loc), Wd D A H0 (ws.set q0 (a, .inl (ty 0, n, .inl (upd f i.toNatClampNeg x)))) H1 locs1 → W p l e R s m args below meth c H1 locs1 cells slots Q (F0 m (pc + 1) ls rest)) : W p l e R s m args below meth c H locs cells slots Q (F0 m pc ls (.int x :: .int i :: .ref a :: rest)) :=
  va_iast C.1 C.2.1 hK.1 X.1 X.2.1 X.2.2 q0 0 he rfl hin hdg (fun H1 locs1 hP hD hS => kk H1 locs1 ⟨hP, hD, hS⟩)
theorem s_mx {index : Nat} {x y : Int32} (C : Cx p m c cc nL s args own) (hls : ls.size = nL) (hl : Cond.methodLink own index Lib.Math.max.name ∈ Wall) (hfr : 1 ≤ R.frames) (hlo : (rest.map fun v => v.category).sum + 13 ≤ R.locals) (hcs : cells ≤ R.cells ∧ slots ≤ R.slots) (hdg : decode cc pc = .ok (.invokestatic index, 3))
    (kk : W p l e R s m args below meth c H locs cells slots Q (F0 m (pc + 3) ls (.int (mx x y) :: rest))) : W p l e R s m args below meth c H locs cells slots Q (F0 m pc ls (.int y :: .int x :: rest)) :=
  va_mmax C.1 C.2.1 (C.2.2.1.trans hls.symm) C.2.2.2.1 (C.2.2.2.2 _ hl) (C.2.2.2.2 _ ws_J9_max_7cf53) (C.2.2.2.2 _ wi_RJ9) (C.2.2.2.2 _ wc_J9_max_7cf53) hfr hlo hcs.1 hcs.2 hdg kk
theorem s_mn {index : Nat} {x y : Int32} (C : Cx p m c cc nL s args own) (hls : ls.size = nL) (hl : Cond.methodLink own index Lib.Math.min.name ∈ Wall) (hfr : 1 ≤ R.frames) (hlo : (rest.map fun v => v.category).sum + 13 ≤ R.locals) (hcs : cells ≤ R.cells ∧ slots ≤ R.slots) (hdg : decode cc pc = .ok (.invokestatic index, 3))
    (kk : W p l e R s m args below meth c H locs cells slots Q (F0 m (pc + 3) ls (.int (mn x y) :: rest))) : W p l e R s m args below meth c H locs cells slots Q (F0 m pc ls (.int y :: .int x :: rest)) :=
  va_mmin C.1 C.2.1 (C.2.2.1.trans hls.symm) C.2.2.2.1 (C.2.2.2.2 _ hl) (C.2.2.2.2 _ ws_J9_min_7cf53) (C.2.2.2.2 _ wi_RJ9) (C.2.2.2.2 _ wc_J9_min_7cf53) hfr hlo hcs.1 hcs.2 hdg kk
theorem s_eqi {x y : Int32} (h : x = y) (k : W p l e R s m args below meth c H locs cells slots Q (F0 m pc ls (.int y :: rest))) : W p l e R s m args below meth c H locs cells slots Q (F0 m pc ls (.int x :: rest)) := h ▸ k
theorem s_eql {x y : Int64} (h : x = y) (k : W p l e R s m args below meth c H locs cells slots Q (F0 m pc ls (.long y :: rest))) : W p l e R s m args below meth c H locs cells slots Q (F0 m pc ls (.long x :: rest)) := h ▸ k
theorem s_copyN {index a0 n0 n1 : Nat} {f g : Nat → Int32} {sp dp n : Int32} (C : Cx p m c cc nL s args own) (hK : KK D ty s) (X : Wd D A H0 ws H locs) (hls : ls.size = nL) (hl : Cond.methodLink own index arraycopyName ∈ Wall) (q0 q1 a1 a2 a3 : Nat) (he0 : ws[q0]? = some (a0, .inl (ty 0, n0, .inl f))) (he1 : ws[q1]? = some (a, .inl (ty 0, n1, .inl g)))
    (h1 : sp = nI a1) (h2 : dp = nI a2) (h3 : n = nI a3) (h4 : a1 + a3 ≤ n0) (h5 : a2 + a3 ≤ n1) (hn0 : n0 < 2 ^ 31) (hn1 : n1 < 2 ^ 31) (hfr : 1 ≤ R.frames) (hlo : (rest.map fun v => v.category).sum + 18 ≤ R.locals) (hdg : decode cc pc = .ok (.invokestatic index, 3))
    (kk : ∀ (H1 : Heap) (locs1 : List Loc), Wd D A H0 (ws.set q1 (a, .inl (ty 0, n1, .inl (va_cpy f g a1 a2 a3)))) H1 locs1 → W p l e R s m args below meth c H1 locs1 cells slots Q (F0 m (pc + 3) ls rest)) : W p l e R s m args below meth c H locs cells slots Q (F0 m pc ls (.int n :: .int dp :: .ref a :: .int sp :: .ref a0 :: rest)) := by
  subst h1 h2 h3
  refine va_copyi C.1 C.2.1 (C.2.2.1.trans hls.symm) C.2.2.2.1 (C.2.2.2.2 _ hl) (C.2.2.2.2 _ wv_arraycopyName) (C.2.2.2.2 _ ws_arraycopyName) (C.2.2.2.2 _ wi_RJ10) hK.1 X.1 X.2.1 X.2.2 q0 q1 0 0 he0 he1 rfl rfl rfl (nI_pos (by omega)) (nI_pos (by omega)) (nI_pos (by omega)) (by rw [nI_clamp (by omega), nI_clamp (by omega)]; exact h4) (by rw [nI_clamp (by omega), nI_clamp (by omega)]; exact h5) (fun _ _ => rfl) hfr hlo hdg (fun H1 locs1 hP hD hS => kk H1 locs1 ?_)
  rw [nI_clamp (by omega), nI_clamp (by omega), nI_clamp (by omega)] at hP hD
  exact ⟨hP, hD, hS⟩
theorem s_copy {index a0 n0 n1 : Nat} {f g : Nat → Int32} {sp dp n : Int32} (C : Cx p m c cc nL s args own) (hK : KK D ty s) (X : Wd D A H0 ws H locs) (hls : ls.size = nL) (hl : Cond.methodLink own index arraycopyName ∈ Wall) (q0 q1 : Nat) (he0 : ws[q0]? = some (a0, .inl (ty 0, n0, .inl f))) (he1 : ws[q1]? = some (a, .inl (ty 0, n1, .inl g)))
    (h1 : ¬ sp < 0) (h2 : ¬ dp < 0) (h3 : ¬ n < 0) (h4 : sp.toNatClampNeg + n.toNatClampNeg ≤ n0) (h5 : dp.toNatClampNeg + n.toNatClampNeg ≤ n1) (hfr : 1 ≤ R.frames) (hlo : (rest.map fun v => v.category).sum + 18 ≤ R.locals) (hdg : decode cc pc = .ok (.invokestatic index, 3))
    (kk : ∀ (H1 : Heap) (locs1 : List Loc), Wd D A H0 (ws.set q1 (a, .inl (ty 0, n1, .inl (va_cpy f g sp.toNatClampNeg dp.toNatClampNeg n.toNatClampNeg)))) H1 locs1 → W p l e R s m args below meth c H1 locs1 cells slots Q (F0 m (pc + 3) ls rest)) : W p l e R s m args below meth c H locs cells slots Q (F0 m pc ls (.int n :: .int dp :: .ref a :: .int sp :: .ref a0 :: rest)) :=
  va_copyi C.1 C.2.1 (C.2.2.1.trans hls.symm) C.2.2.2.1 (C.2.2.2.2 _ hl) (C.2.2.2.2 _ wv_arraycopyName) (C.2.2.2.2 _ ws_arraycopyName) (C.2.2.2.2 _ wi_RJ10) hK.1 X.1 X.2.1 X.2.2 q0 q1 0 0 he0 he1 rfl rfl rfl h1 h2 h3 h4 h5 (fun _ _ => rfl) hfr hlo hdg (fun H1 locs1 hP hD hS => kk H1 locs1 ⟨hP, hD, hS⟩)
theorem s_cVv {y : MethodName} {cy : ByteArray} {n' d index b ci q0 : Nat} {ret : Option FieldType} {As : List Value} {wc w1 : va_W} {fs : List Value} {Cn : vw_C} {st0 : List Value} (C : Cx p m c cc nL s args own) (hK : KK D ty s) (hA : ∀ q : Nat, H0.size ≤ q → A q) (X : Wd D A H0 ws H locs)
    (hM : MC l D ty y cy n' ret d (.ref b :: As) wc none w1) (is : List Nat) (hC : is.map (fun i => ws[i]?) = wc.map some) (hn : va_nd is = true) (ha : w1.map Prod.fst = wc.map Prod.fst) (hL : ML y cy n' ret As.length) (hl : Cond.methodLink own index y ∈ Wall) (hq : wc[q0]? = some (b, .inr (ci, fs))) (hcl : vwCl[ci]? = some Cn) (hcn : Cn.1 = y.cls) (hR : d + 1 ≤ R.frames ∧ 8 + (n' + 11) + 36 * d ≤ R.locals) (hcs : cells ≤ R.cells ∧ slots ≤ R.slots) (hls : ls.size = nL) (hst : st0 = As.reverse ++ .ref b :: rest) (hrest : (rest.map fun v => v.category).sum ≤ 8) (hdg : decode cc pc = .ok (.invokevirtual index, 3))
    (kk : ∀ (H1 : Heap) (locs1 : List Loc), Wd D A H0 (setM ws is w1) H1 locs1 → W p l e R s m args below meth c H1 locs1 cells slots Q (F0 m (pc + 3) ls rest)) : W p l e R s m args below meth c H locs cells slots Q (F0 m pc ls st0) :=
  s_cV C hK hA X hM is hC hn ha hL hl hq hcl hcn hR hcs hls hst hrest hdg kk
theorem s_cVi {r : Int32} {y : MethodName} {cy : ByteArray} {n' d index b ci q0 : Nat} {ret : Option FieldType} {As : List Value} {wc w1 : va_W} {fs : List Value} {Cn : vw_C} {st0 : List Value} (C : Cx p m c cc nL s args own) (hK : KK D ty s) (hA : ∀ q : Nat, H0.size ≤ q → A q) (X : Wd D A H0 ws H locs)
    (hM : MC l D ty y cy n' ret d (.ref b :: As) wc (some (.int r)) w1) (is : List Nat) (hC : is.map (fun i => ws[i]?) = wc.map some) (hn : va_nd is = true) (ha : w1.map Prod.fst = wc.map Prod.fst) (hL : ML y cy n' ret As.length) (hl : Cond.methodLink own index y ∈ Wall) (hq : wc[q0]? = some (b, .inr (ci, fs))) (hcl : vwCl[ci]? = some Cn) (hcn : Cn.1 = y.cls) (hR : d + 1 ≤ R.frames ∧ 8 + (n' + 11) + 36 * d ≤ R.locals) (hcs : cells ≤ R.cells ∧ slots ≤ R.slots) (hls : ls.size = nL) (hst : st0 = As.reverse ++ .ref b :: rest) (hrest : (rest.map fun v => v.category).sum ≤ 8) (hdg : decode cc pc = .ok (.invokevirtual index, 3))
    (kk : ∀ (H1 : Heap) (locs1 : List Loc), Wd D A H0 (setM ws is w1) H1 locs1 → W p l e R s m args below meth c H1 locs1 cells slots Q (F0 m (pc + 3) ls (.int r :: rest))) : W p l e R s m args below meth c H locs cells slots Q (F0 m pc ls st0) :=
  s_cV C hK hA X hM is hC hn ha hL hl hq hcl hcn hR hcs hls hst hrest hdg kk
theorem s_cVl {r : Int64} {y : MethodName} {cy : ByteArray} {n' d index b ci q0 : Nat} {ret : Option FieldType} {As : List Value} {wc w1 : va_W} {fs : List Value} {Cn : vw_C} {st0 : List Value} (C : Cx p m c cc nL s args own) (hK : KK D ty s) (hA : ∀ q : Nat, H0.size ≤ q → A q) (X : Wd D A H0 ws H locs)
    (hM : MC l D ty y cy n' ret d (.ref b :: As) wc (some (.long r)) w1) (is : List Nat) (hC : is.map (fun i => ws[i]?) = wc.map some) (hn : va_nd is = true) (ha : w1.map Prod.fst = wc.map Prod.fst) (hL : ML y cy n' ret As.length) (hl : Cond.methodLink own index y ∈ Wall) (hq : wc[q0]? = some (b, .inr (ci, fs))) (hcl : vwCl[ci]? = some Cn) (hcn : Cn.1 = y.cls) (hR : d + 1 ≤ R.frames ∧ 8 + (n' + 11) + 36 * d ≤ R.locals) (hcs : cells ≤ R.cells ∧ slots ≤ R.slots) (hls : ls.size = nL) (hst : st0 = As.reverse ++ .ref b :: rest) (hrest : (rest.map fun v => v.category).sum ≤ 8) (hdg : decode cc pc = .ok (.invokevirtual index, 3))
    (kk : ∀ (H1 : Heap) (locs1 : List Loc), Wd D A H0 (setM ws is w1) H1 locs1 → W p l e R s m args below meth c H1 locs1 cells slots Q (F0 m (pc + 3) ls (.long r :: rest))) : W p l e R s m args below meth c H locs cells slots Q (F0 m pc ls st0) :=
  s_cV C hK hA X hM is hC hn ha hL hl hq hcl hcn hR hcs hls hst hrest hdg kk
theorem s_cSv {y : MethodName} {cy : ByteArray} {n' d index : Nat} {ret : Option FieldType} {As : List Value} {wc w1 : va_W} {st0 : List Value} (C : Cx p m c cc nL s args own) (hK : KK D ty s) (hA : ∀ q : Nat, H0.size ≤ q → A q) (X : Wd D A H0 ws H locs)
    (hM : MC l D ty y cy n' ret d As wc none w1) (is : List Nat) (hC : is.map (fun i => ws[i]?) = wc.map some) (hn : va_nd is = true) (ha : w1.map Prod.fst = wc.map Prod.fst) (hL : SL y cy n' ret As.length) (hl : Cond.methodLink own index y ∈ Wall) (hR : d + 1 ≤ R.frames ∧ 8 + (n' + 11) + 36 * d ≤ R.locals) (hcs : cells ≤ R.cells ∧ slots ≤ R.slots) (hls : ls.size = nL) (hst : st0 = As.reverse ++ rest) (hrest : (rest.map fun v => v.category).sum ≤ 8) (hdg : decode cc pc = .ok (.invokestatic index, 3))
    (kk : ∀ (H1 : Heap) (locs1 : List Loc), Wd D A H0 (setM ws is w1) H1 locs1 → W p l e R s m args below meth c H1 locs1 cells slots Q (F0 m (pc + 3) ls rest)) : W p l e R s m args below meth c H locs cells slots Q (F0 m pc ls st0) :=
  s_cS C hK hA X hM is hC hn ha hL hl hR hcs hls hst hrest hdg kk
theorem s_cSi {r : Int32} {y : MethodName} {cy : ByteArray} {n' d index : Nat} {ret : Option FieldType} {As : List Value} {wc w1 : va_W} {st0 : List Value} (C : Cx p m c cc nL s args own) (hK : KK D ty s) (hA : ∀ q : Nat, H0.size ≤ q → A q) (X : Wd D A H0 ws H locs)
    (hM : MC l D ty y cy n' ret d As wc (some (.int r)) w1) (is : List Nat) (hC : is.map (fun i => ws[i]?) = wc.map some) (hn : va_nd is = true) (ha : w1.map Prod.fst = wc.map Prod.fst) (hL : SL y cy n' ret As.length) (hl : Cond.methodLink own index y ∈ Wall) (hR : d + 1 ≤ R.frames ∧ 8 + (n' + 11) + 36 * d ≤ R.locals) (hcs : cells ≤ R.cells ∧ slots ≤ R.slots) (hls : ls.size = nL) (hst : st0 = As.reverse ++ rest) (hrest : (rest.map fun v => v.category).sum ≤ 8) (hdg : decode cc pc = .ok (.invokestatic index, 3))
    (kk : ∀ (H1 : Heap) (locs1 : List Loc), Wd D A H0 (setM ws is w1) H1 locs1 → W p l e R s m args below meth c H1 locs1 cells slots Q (F0 m (pc + 3) ls (.int r :: rest))) : W p l e R s m args below meth c H locs cells slots Q (F0 m pc ls st0) :=
  s_cS C hK hA X hM is hC hn ha hL hl hR hcs hls hst hrest hdg kk
theorem s_cSl {r : Int64} {y : MethodName} {cy : ByteArray} {n' d index : Nat} {ret : Option FieldType} {As : List Value} {wc w1 : va_W} {st0 : List Value} (C : Cx p m c cc nL s args own) (hK : KK D ty s) (hA : ∀ q : Nat, H0.size ≤ q → A q) (X : Wd D A H0 ws H locs)
    (hM : MC l D ty y cy n' ret d As wc (some (.long r)) w1) (is : List Nat) (hC : is.map (fun i => ws[i]?) = wc.map some) (hn : va_nd is = true) (ha : w1.map Prod.fst = wc.map Prod.fst) (hL : SL y cy n' ret As.length) (hl : Cond.methodLink own index y ∈ Wall) (hR : d + 1 ≤ R.frames ∧ 8 + (n' + 11) + 36 * d ≤ R.locals) (hcs : cells ≤ R.cells ∧ slots ≤ R.slots) (hls : ls.size = nL) (hst : st0 = As.reverse ++ rest) (hrest : (rest.map fun v => v.category).sum ≤ 8) (hdg : decode cc pc = .ok (.invokestatic index, 3))
    (kk : ∀ (H1 : Heap) (locs1 : List Loc), Wd D A H0 (setM ws is w1) H1 locs1 → W p l e R s m args below meth c H1 locs1 cells slots Q (F0 m (pc + 3) ls (.long r :: rest))) : W p l e R s m args below meth c H locs cells slots Q (F0 m pc ls st0) :=
  s_cS C hK hA X hM is hC hn ha hL hl hR hcs hls hst hrest hdg kk
theorem s_cNv {y : MethodName} {host : String} {cy : ByteArray} {n' d index : Nat} {ret : Option FieldType} {As : List Value} {wc w1 : va_W} {st0 : List Value} (C : Cx p m c cc nL s args own) (hK : KK D ty s) (hA : ∀ q : Nat, H0.size ≤ q → A q) (X : Wd D A H0 ws H locs)
    (hM : MC l D ty y cy n' ret d As wc none w1) (is : List Nat) (hC : is.map (fun i => ws[i]?) = wc.map some) (hn : va_nd is = true) (ha : w1.map Prod.fst = wc.map Prod.fst) (hL : SL y cy n' ret As.length) (hl : Cond.methodLinkNest own index y host ∈ nestW) (hR : d + 1 ≤ R.frames ∧ 8 + (n' + 11) + 36 * d ≤ R.locals) (hcs : cells ≤ R.cells ∧ slots ≤ R.slots) (hls : ls.size = nL) (hst : st0 = As.reverse ++ rest) (hrest : (rest.map fun v => v.category).sum ≤ 8) (hdg : decode cc pc = .ok (.invokestatic index, 3))
    (kk : ∀ (H1 : Heap) (locs1 : List Loc), Wd D A H0 (setM ws is w1) H1 locs1 → W p l e R s m args below meth c H1 locs1 cells slots Q (F0 m (pc + 3) ls rest)) : W p l e R s m args below meth c H locs cells slots Q (F0 m pc ls st0) :=
  s_cN C hK hA X hM is hC hn ha hL hl hR hcs hls hst hrest hdg kk
theorem s_cNi {r : Int32} {y : MethodName} {host : String} {cy : ByteArray} {n' d index : Nat} {ret : Option FieldType} {As : List Value} {wc w1 : va_W} {st0 : List Value} (C : Cx p m c cc nL s args own) (hK : KK D ty s) (hA : ∀ q : Nat, H0.size ≤ q → A q) (X : Wd D A H0 ws H locs)
    (hM : MC l D ty y cy n' ret d As wc (some (.int r)) w1) (is : List Nat) (hC : is.map (fun i => ws[i]?) = wc.map some) (hn : va_nd is = true) (ha : w1.map Prod.fst = wc.map Prod.fst) (hL : SL y cy n' ret As.length) (hl : Cond.methodLinkNest own index y host ∈ nestW) (hR : d + 1 ≤ R.frames ∧ 8 + (n' + 11) + 36 * d ≤ R.locals) (hcs : cells ≤ R.cells ∧ slots ≤ R.slots) (hls : ls.size = nL) (hst : st0 = As.reverse ++ rest) (hrest : (rest.map fun v => v.category).sum ≤ 8) (hdg : decode cc pc = .ok (.invokestatic index, 3))
    (kk : ∀ (H1 : Heap) (locs1 : List Loc), Wd D A H0 (setM ws is w1) H1 locs1 → W p l e R s m args below meth c H1 locs1 cells slots Q (F0 m (pc + 3) ls (.int r :: rest))) : W p l e R s m args below meth c H locs cells slots Q (F0 m pc ls st0) :=
  s_cN C hK hA X hM is hC hn ha hL hl hR hcs hls hst hrest hdg kk
theorem s_cNl {r : Int64} {y : MethodName} {host : String} {cy : ByteArray} {n' d index : Nat} {ret : Option FieldType} {As : List Value} {wc w1 : va_W} {st0 : List Value} (C : Cx p m c cc nL s args own) (hK : KK D ty s) (hA : ∀ q : Nat, H0.size ≤ q → A q) (X : Wd D A H0 ws H locs)
    (hM : MC l D ty y cy n' ret d As wc (some (.long r)) w1) (is : List Nat) (hC : is.map (fun i => ws[i]?) = wc.map some) (hn : va_nd is = true) (ha : w1.map Prod.fst = wc.map Prod.fst) (hL : SL y cy n' ret As.length) (hl : Cond.methodLinkNest own index y host ∈ nestW) (hR : d + 1 ≤ R.frames ∧ 8 + (n' + 11) + 36 * d ≤ R.locals) (hcs : cells ≤ R.cells ∧ slots ≤ R.slots) (hls : ls.size = nL) (hst : st0 = As.reverse ++ rest) (hrest : (rest.map fun v => v.category).sum ≤ 8) (hdg : decode cc pc = .ok (.invokestatic index, 3))
    (kk : ∀ (H1 : Heap) (locs1 : List Loc), Wd D A H0 (setM ws is w1) H1 locs1 → W p l e R s m args below meth c H1 locs1 cells slots Q (F0 m (pc + 3) ls (.long r :: rest))) : W p l e R s m args below meth c H locs cells slots Q (F0 m pc ls st0) :=
  s_cN C hK hA X hM is hC hn ha hL hl hR hcs hls hst hrest hdg kk
end Steps2
