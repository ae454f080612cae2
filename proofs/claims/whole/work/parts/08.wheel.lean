section EntryF
variable {l : Launch} {D : va_G} {ty : Nat → ClassId} {y : MethodName} {cc : ByteArray} {n d : Nat} {As : List Value} {w w' : va_W}
theorem mc_iF {r : Int32} (hy : plainFor y = true) (hn : (lg_sl As).length ≤ n)
    (body : ∀ (p : Program) (e : Env) (s : State) (m : MethodId) (args : Array Value) (below : List Frame) (meth : Method) (c : Code) (A : Nat → Prop) (Q : State → Prop) (ls : Array Slot), Cx p m c cc n s args y.cls → KK D ty s → (∀ q : Nat, s.heap.size ≤ q → A q) → Wd D A s.heap w s.heap [] →
      (∀ (H : Heap) (locs : List Loc) (pc : Nat) (ls : Array Slot) (w0 : va_W) (r0 : Int32), decode cc pc = .ok (.ireturn, 1) → Wd D A s.heap w0 H locs → w0 = w' → r0 = r → W p l e (rmD d) s m args below meth c H locs 0 0 Q (F0 m pc ls [.int r0])) →
      lv_has ls n (lv_args 0 As) → W p l e (rmD d) s m args below meth c s.heap [] 0 0 Q (F0 m 0 ls [])) : MC l D ty y cc n (some .int) d As w (some (.int r)) w' := by
  intro sz
  refine va_MetF (cc := cc) (maxL := n) (ret := some .int) hy rfl ?_
  intro p e s m args below meth c s₁ B hml hv
  obtain ⟨rfl, hsz, hP, hK, hD0⟩ := hv
  subst hsz
  have hts := atoms_spec (ws := Cond.code y cc n (some .int) :: Wall) B.pre
  have hl := lv_entry As (n := n) hn
  rw [lg_entry_eq]
  generalize (lg_sl As ++ List.replicate (n - (lg_sl As).length) Slot.unset).toArray = ls at hl ⊢
  refine body p e s m _ below meth c (va_A w s.heap.size) _ ls ⟨B.exec, B.bytes, hml, findClass_of_methodNamed B.named, fun w h => hts w (List.mem_cons_of_mem _ h)⟩ hK (fun q h => Or.inr h) ⟨hP, hD0.self, va_S.rf⟩ ?_ hl
  intro H locs pc ls w0 r0 hdg X ew er
  subst ew; subst er
  exact W.iret B.exec B.bytes B.returns (fun t ht hW => ⟨⟨rfl, by rw [ht]; exact X.1⟩, X.2.2.F ht⟩) X.2.2.2.2 hdg B.notSynchronized
end EntryF
theorem lt_toInt {x y : Int32} : x < y ↔ x.toInt < y.toInt := Int32.lt_iff_toInt_lt
theorem le_toInt {x y : Int32} : x ≤ y ↔ x.toInt ≤ y.toInt := Int32.le_iff_toInt_le
theorem eq_toInt {x y : Int32} : x = y ↔ x.toInt = y.toInt := Int32.toInt_inj.symm
theorem rng_i (x : Int32) : -2147483648 ≤ x.toInt ∧ x.toInt < 2147483648 := ⟨Int32.le_toInt x, Int32.toInt_lt x⟩
theorem add_i {x y : Int32} (h : -2147483648 ≤ x.toInt + y.toInt ∧ x.toInt + y.toInt < 2147483648) : (x + y).toInt = x.toInt + y.toInt := by
  rw [Int32.toInt_add]; exact Int.bmod_eq_of_le (by omega) (by omega)
theorem sub_i {x y : Int32} (h : -2147483648 ≤ x.toInt - y.toInt ∧ x.toInt - y.toInt < 2147483648) : (x - y).toInt = x.toInt - y.toInt := by
  rw [Int32.toInt_sub]; exact Int.bmod_eq_of_le (by omega) (by omega)
theorem mul_i {x y : Int32} (h : -2147483648 ≤ x.toInt * y.toInt ∧ x.toInt * y.toInt < 2147483648) : (x * y).toInt = x.toInt * y.toInt := by
  rw [Int32.toInt_mul]; exact Int.bmod_eq_of_le (by omega) (by omega)
theorem ne0_nle {x : Int32} (h : ¬ x ≤ 0) : ¬ x = 0 := fun e => h (by rw [e]; decide)
theorem ne0_lt {x : Int32} (h : 0 < x) : ¬ x = 0 := fun e => absurd h (by rw [e]; decide)
theorem vin_last {x : Int32} (h : 0 ≤ x.toInt ∧ x.toInt ≤ 5) (c : ¬ x ≤ 0) : vp_in (x - 1) 5 := by
  rw [le_toInt] at c
  rw [vp_in_iff, sub_i (by have : (1 : Int32).toInt = 1 := rfl; have := rng_i x; omega)]
  have h1 : (1 : Int32).toInt = 1 := rfl
  have h0 : (0 : Int32).toInt = 0 := rfl
  omega

def f_fdiv (a : Int32) (b : Int32) : Int32 := (if 0 ≤ (a ^^^ b) then (a / b) else (if ((a / b) * b) = a then (a / b) else ((a / b) - 1)))
set_option maxHeartbeats 4000000 in
set_option maxRecDepth 100000 in
theorem c_fdiv (l : Launch) (D : va_G) (ty : Nat → ClassId) (a : Int32) (b : Int32) (hb0 : ¬ b = 0) : MC l D ty yJ9_floorDiv_7cf53 cJ9_floorDiv_7cf53 3 (some .int) 0 [.int a, .int b] [] (some (.int (f_fdiv a b))) [] := by
  refine mc_iF (by decide +kernel) (Nat.le_of_ble_eq_true rfl) ?_
  intro p e s m args below meth c A Q ls C hK hA X hret hl
  have hx := C.1
  have hb := C.2.1
  have hl : lv_has ls 3 [(0, .int a), (1, .int b)] := hl
  have X : Wd D A s.heap [] s.heap [] := X
  refine lv_iload_n hx hb dJ9_floorDiv_7cf53_0 rfl (lv_at hl 0 rfl) ?_
  refine lv_iload_n hx hb dJ9_floorDiv_7cf53_1 rfl (lv_at hl 1 rfl) ?_
  refine lv_idiv hx hb dJ9_floorDiv_7cf53_2 hb0 ?_
  refine lv_istore_n (lv' := [(2, .int (a / b)), (0, .int a), (1, .int b)]) hx hb dJ9_floorDiv_7cf53_3 rfl hl (by decide) rfl (fun ls hl => ?_)
  refine lv_iload_n hx hb dJ9_floorDiv_7cf53_4 rfl (lv_at hl 1 rfl) ?_
  refine lv_iload_n hx hb dJ9_floorDiv_7cf53_5 rfl (lv_at hl 2 rfl) ?_
  refine lv_ixor hx hb dJ9_floorDiv_7cf53_6 ?_
  refine lv_if_ge (tgt := 21) hx hb dJ9_floorDiv_7cf53_7 (by decide) (fun c0_0 => ?_) (fun c0_0 => ?_)
  · refine lv_iload_n hx hb dJ9_floorDiv_7cf53_21 rfl (lv_at hl 0 rfl) ?_
    exact hret _ _ _ _ _ _ dJ9_floorDiv_7cf53_22 X rfl (by first | (rw [f_fdiv, if_pos c0_0]; done) | (rw [f_fdiv, if_pos c0_0]; rfl) | (simp only [f_fdiv, if_pos c0_0]; done))
  · refine lv_iload_n hx hb dJ9_floorDiv_7cf53_10 rfl (lv_at hl 0 rfl) ?_
    refine lv_iload_n hx hb dJ9_floorDiv_7cf53_11 rfl (lv_at hl 2 rfl) ?_
    refine lv_imul hx hb dJ9_floorDiv_7cf53_12 ?_
    refine lv_iload_n hx hb dJ9_floorDiv_7cf53_13 rfl (lv_at hl 1 rfl) ?_
    refine lv_icmp_eq (tgt := 21) hx hb dJ9_floorDiv_7cf53_14 (by decide) (fun c1_1 => ?_) (fun c1_1 => ?_)
    · refine lv_iload_n hx hb dJ9_floorDiv_7cf53_21 rfl (lv_at hl 0 rfl) ?_
      exact hret _ _ _ _ _ _ dJ9_floorDiv_7cf53_22 X rfl (by first | (rw [f_fdiv, if_neg c0_0, if_pos c1_1]; done) | (rw [f_fdiv, if_neg c0_0, if_pos c1_1]; rfl) | (simp only [f_fdiv, if_neg c0_0, if_pos c1_1]; done))
    · refine lv_iload_n hx hb dJ9_floorDiv_7cf53_17 rfl (lv_at hl 0 rfl) ?_
      refine lv_iconst (v := 1) hx hb dJ9_floorDiv_7cf53_18 (by decide) ?_
      refine lv_isub hx hb dJ9_floorDiv_7cf53_19 ?_
      exact hret _ _ _ _ _ _ dJ9_floorDiv_7cf53_20 X rfl (by first | (rw [f_fdiv, if_neg c0_0, if_neg c1_1]; done) | (rw [f_fdiv, if_neg c0_0, if_neg c1_1]; rfl) | (simp only [f_fdiv, if_neg c0_0, if_neg c1_1]; done))
def f_X5_slip (w : F1) (V : Int32) : Int32 := (if 0 < V then (f_fdiv (1000 * (V - (w 0))) V) else 0)
set_option maxHeartbeats 4000000 in
set_option maxRecDepth 100000 in
theorem c_X5_slip (l : Launch) (D : va_G) (ty : Nat → ClassId) (h : Nat) (am : Nat) (w : F1) (V : Int32) : MC l D ty yX5_slip cX5_slip 2 (some .int) 1 [.ref h, .int V] [(h, whE w am)] (some (.int (f_X5_slip w V))) [(h, whE w am)] := by
  refine mc_i (by decide +kernel) (Nat.le_of_ble_eq_true rfl) ?_
  intro p e s m args below meth c A Q ls C hK hA X hret hl
  have hx := C.1
  have hb := C.2.1
  have hl : lv_has ls 2 [(0, .ref h), (1, .int V)] := hl
  have X : Wd D A s.heap [(h, whE w am)] s.heap [] := X
  refine lv_iload_n hx hb dX5_slip_0 rfl (lv_at hl 1 rfl) ?_
  refine lv_if_gt (tgt := 8) hx hb dX5_slip_1 (by decide) (fun c0_0 => ?_) (fun c0_0 => ?_)
  · refine lv_sipush (v := 1000) hx hb dX5_slip_8 (by decide) ?_
    refine lv_iload_n hx hb dX5_slip_11 rfl (lv_at hl 1 rfl) ?_
    refine lv_aload_n hx hb dX5_slip_12 rfl (lv_at hl 0 rfl) ?_
    refine get_wh_0 C hK X 0 rfl fl_X5_36 dX5_slip_13 ?_
    refine lv_isub hx hb dX5_slip_16 ?_
    refine lv_imul hx hb dX5_slip_17 ?_
    refine lv_iload_n hx hb dX5_slip_18 rfl (lv_at hl 1 rfl) ?_
    refine s_cS0i C hK hA X (c_fdiv l D ty (1000 * (V - (w 0))) V (ne0_lt c0_0)) [] pk_n rfl sl_J9_floorDiv_7cf53 wm_X5_66 ⟨Nat.le_of_ble_eq_true rfl, Nat.le_of_ble_eq_true rfl⟩ ⟨Nat.zero_le _, Nat.zero_le _⟩ hl.1 rfl (Nat.le_of_ble_eq_true rfl) dX5_slip_19 (fun H locs X => ?_)
    exact hret _ _ _ _ _ _ dX5_slip_22 X rfl (by first | (rw [f_X5_slip, if_pos c0_0]; done) | (rw [f_X5_slip, if_pos c0_0]; rfl) | (simp only [f_X5_slip, if_pos c0_0]; done))
  · refine lv_iconst (v := 0) hx hb dX5_slip_4 (by decide) ?_
    refine lv_goto (tgt := 22) hx hb dX5_slip_5 (by decide) ?_
    exact hret _ _ _ _ _ _ dX5_slip_22 X rfl (by first | (rw [f_X5_slip, if_neg c0_0]; done) | (rw [f_X5_slip, if_neg c0_0]; rfl) | (simp only [f_X5_slip, if_neg c0_0]; done))
def f_X5_turn_h (w : F1) (V : Int32) : F1 := (upd w 0 (mn (mx ((w 0) + (2 * ((w 13) - (w 1)))) 0) V))
theorem ok_X5_turn_h (w : F1) (V : Int32) (tk_h : kpOK w) : kpOK (f_X5_turn_h w V) := by
  (try simp only [f_X5_turn_h]); exact (kp_upd tk_h)
set_option maxHeartbeats 4000000 in
set_option maxRecDepth 100000 in
theorem c_X5_turn (l : Launch) (D : va_G) (ty : Nat → ClassId) (h : Nat) (am : Nat) (w : F1) (V : Int32) : MC l D ty yX5_turn cX5_turn 2 none 1 [.ref h, .int V] [(h, whE w am)] none [(h, whE (f_X5_turn_h w V) am)] := by
  refine mc_v (by decide +kernel) (Nat.le_of_ble_eq_true rfl) ?_
  intro p e s m args below meth c A Q ls C hK hA X hret hl
  have hx := C.1
  have hb := C.2.1
  have hl : lv_has ls 2 [(0, .ref h), (1, .int V)] := hl
  have X : Wd D A s.heap [(h, whE w am)] s.heap [] := X
  refine lv_aload_n hx hb dX5_turn_0 rfl (lv_at hl 0 rfl) ?_
  refine lv_aload_n hx hb dX5_turn_1 rfl (lv_at hl 0 rfl) ?_
  refine get_wh_0 C hK X 0 rfl fl_X5_36 dX5_turn_2 ?_
  refine lv_iconst (v := 2) hx hb dX5_turn_5 (by decide) ?_
  refine lv_aload_n hx hb dX5_turn_6 rfl (lv_at hl 0 rfl) ?_
  refine get_wh_14 C hK X 0 rfl fl_X5_72 dX5_turn_7 ?_
  refine lv_aload_n hx hb dX5_turn_10 rfl (lv_at hl 0 rfl) ?_
  refine get_wh_1 C hK X 0 rfl fl_X5_39 dX5_turn_11 ?_
  refine lv_isub hx hb dX5_turn_14 ?_
  refine lv_imul hx hb dX5_turn_15 ?_
  refine lv_iadd hx hb dX5_turn_16 ?_
  refine lv_iconst (v := 0) hx hb dX5_turn_17 (by decide) ?_
  refine s_mx C hl.1 wm_X5_75 (Nat.le_of_ble_eq_true rfl) (Nat.le_of_ble_eq_true rfl) ⟨Nat.zero_le _, Nat.zero_le _⟩ dX5_turn_18 ?_
  refine lv_iload_n hx hb dX5_turn_21 rfl (lv_at hl 1 rfl) ?_
  refine s_mn C hl.1 wm_X5_78 (Nat.le_of_ble_eq_true rfl) (Nat.le_of_ble_eq_true rfl) ⟨Nat.zero_le _, Nat.zero_le _⟩ dX5_turn_22 ?_
  refine put_wh_0 C hK X 0 rfl pl_X5_36 dX5_turn_25 (fun H locs X => ?_)
  have X : Wd D A s.heap [(h, whE (upd w 0 (mn (mx ((w 0) + (2 * ((w 13) - (w 1)))) 0) V)) am)] H locs := X
  have e_0_0 : (f_X5_turn_h w V) = (upd w 0 (mn (mx ((w 0) + (2 * ((w 13) - (w 1)))) 0) V)) := by first | (rw [f_X5_turn_h]; done) | (rw [f_X5_turn_h]; rfl) | (simp only [f_X5_turn_h]; done)
  exact hret _ _ _ _ _ dX5_turn_28 X (by rw [e_0_0])
def f_X5_countLocked_h (w : F1) (V : Int32) : F1 := (if (w 0) = 0 then (if V ≤ 1400 then w else (upd w 6 ((w 6) + 1))) else w)
theorem ok_X5_countLocked_h (w : F1) (V : Int32) (tk_h : kpOK w) : kpOK (f_X5_countLocked_h w V) := by
  by_cases k0 : (w 0) = 0
  · by_cases k1 : V ≤ 1400
    · (try simp only [f_X5_countLocked_h, if_pos k0, if_pos k1]); exact tk_h
    · (try simp only [f_X5_countLocked_h, if_pos k0, if_neg k1]); exact (kp_upd tk_h)
  · (try simp only [f_X5_countLocked_h, if_neg k0]); exact tk_h
set_option maxHeartbeats 4000000 in
set_option maxRecDepth 100000 in
theorem c_X5_countLocked (l : Launch) (D : va_G) (ty : Nat → ClassId) (h : Nat) (am : Nat) (w : F1) (V : Int32) : MC l D ty yX5_countLocked cX5_countLocked 2 none 0 [.ref h, .int V] [(h, whE w am)] none [(h, whE (f_X5_countLocked_h w V) am)] := by
  refine mc_v (by decide +kernel) (Nat.le_of_ble_eq_true rfl) ?_
  intro p e s m args below meth c A Q ls C hK hA X hret hl
  have hx := C.1
  have hb := C.2.1
  have hl : lv_has ls 2 [(0, .ref h), (1, .int V)] := hl
  have X : Wd D A s.heap [(h, whE w am)] s.heap [] := X
  refine lv_aload_n hx hb dX5_countLocked_0 rfl (lv_at hl 0 rfl) ?_
  refine get_wh_0 C hK X 0 rfl fl_X5_36 dX5_countLocked_1 ?_
  refine lv_if_ne (tgt := 24) hx hb dX5_countLocked_4 (by decide) (fun c0_0 => ?_) (fun c0_0 => ?_)
  · have e_0_0 : (f_X5_countLocked_h w V) = w := by first | (rw [f_X5_countLocked_h, if_neg c0_0]; done) | (rw [f_X5_countLocked_h, if_neg c0_0]; rfl) | (simp only [f_X5_countLocked_h, if_neg c0_0]; done)
    exact hret _ _ _ _ _ dX5_countLocked_24 X (by rw [e_0_0])
  · refine lv_iload_n hx hb dX5_countLocked_7 rfl (lv_at hl 1 rfl) ?_
    refine lv_sipush (v := 1400) hx hb dX5_countLocked_8 (by decide) ?_
    refine lv_icmp_le (tgt := 24) hx hb dX5_countLocked_11 (by decide) (fun c1_1 => ?_) (fun c1_1 => ?_)
    · have e_0_0 : (f_X5_countLocked_h w V) = w := by first | (rw [f_X5_countLocked_h, if_pos c0_0, if_pos c1_1]; done) | (rw [f_X5_countLocked_h, if_pos c0_0, if_pos c1_1]; rfl) | (simp only [f_X5_countLocked_h, if_pos c0_0, if_pos c1_1]; done)
      exact hret _ _ _ _ _ dX5_countLocked_24 X (by rw [e_0_0])
    · refine lv_aload_n hx hb dX5_countLocked_14 rfl (lv_at hl 0 rfl) ?_
      refine lv_dup hx hb dX5_countLocked_15 rfl ?_
      refine get_wh_6 C hK X 0 rfl fl_X5_26 dX5_countLocked_16 ?_
      refine lv_iconst (v := 1) hx hb dX5_countLocked_19 (by decide) ?_
      refine lv_iadd hx hb dX5_countLocked_20 ?_
      refine put_wh_6 C hK X 0 rfl pl_X5_26 dX5_countLocked_21 (fun H locs X => ?_)
      have X : Wd D A s.heap [(h, whE (upd w 6 ((w 6) + 1)) am)] H locs := X
      have e_0_0 : (f_X5_countLocked_h w V) = (upd w 6 ((w 6) + 1)) := by first | (rw [f_X5_countLocked_h, if_pos c0_0, if_neg c1_1]; done) | (rw [f_X5_countLocked_h, if_pos c0_0, if_neg c1_1]; rfl) | (simp only [f_X5_countLocked_h, if_pos c0_0, if_neg c1_1]; done)
      exact hret _ _ _ _ _ dX5_countLocked_24 X (by rw [e_0_0])
def f_X5_latest (w : F1) (ms : F1) : Int32 := (if (w 10) ≤ 0 then 0 else (ms ((w 10) - 1).toNatClampNeg))
set_option maxHeartbeats 4000000 in
set_option maxRecDepth 100000 in
theorem c_X5_latest (l : Launch) (D : va_G) (ty : Nat → ClassId) (h : Nat) (am : Nat) (w : F1) (ms : F1) (hk : kpOK w) : MC l D ty yX5_latest cX5_latest 1 (some .int) 0 [.ref h] [(h, whE w am), (am, arE ty 5 ms)] (some (.int (f_X5_latest w ms))) [(h, whE w am), (am, arE ty 5 ms)] := by
  refine mc_i (by decide +kernel) (Nat.le_of_ble_eq_true rfl) ?_
  intro p e s m args below meth c A Q ls C hK hA X hret hl
  have hx := C.1
  have hb := C.2.1
  have hl : lv_has ls 1 [(0, .ref h)] := hl
  have X : Wd D A s.heap [(h, whE w am), (am, arE ty 5 ms)] s.heap [] := X
  refine lv_aload_n hx hb dX5_latest_0 rfl (lv_at hl 0 rfl) ?_
  refine get_wh_11 C hK X 0 rfl fl_X5_51 dX5_latest_1 ?_
  refine lv_if_le (tgt := 21) hx hb dX5_latest_4 (by decide) (fun c0_0 => ?_) (fun c0_0 => ?_)
  · refine lv_iconst (v := 0) hx hb dX5_latest_21 (by decide) ?_
    exact hret _ _ _ _ _ _ dX5_latest_22 X rfl (by first | (rw [f_X5_latest, if_pos c0_0]; done) | (rw [f_X5_latest, if_pos c0_0]; rfl) | (simp only [f_X5_latest, if_pos c0_0]; done))
  · refine lv_aload_n hx hb dX5_latest_7 rfl (lv_at hl 0 rfl) ?_
    refine get_wh_10 C hK X 0 rfl fl_X5_11 dX5_latest_8 ?_
    refine lv_aload_n hx hb dX5_latest_11 rfl (lv_at hl 0 rfl) ?_
    refine get_wh_11 C hK X 0 rfl fl_X5_51 dX5_latest_12 ?_
    refine lv_iconst (v := 1) hx hb dX5_latest_15 (by decide) ?_
    refine lv_isub hx hb dX5_latest_16 ?_
    refine s_iald C hK X 1 rfl (vin_last hk c0_0) dX5_latest_17 ?_
    refine lv_goto (tgt := 22) hx hb dX5_latest_18 (by decide) ?_
    exact hret _ _ _ _ _ _ dX5_latest_22 X rfl (by first | (rw [f_X5_latest, if_neg c0_0]; done) | (rw [f_X5_latest, if_neg c0_0]; rfl) | (simp only [f_X5_latest, if_neg c0_0]; done))
def f_X5_forgetOldest_h (w : F1) : F1 := (upd w 10 4)
def f_X5_forgetOldest_am (ms : F1) : F1 := (va_cpy ms ms 1 0 4)
theorem ok_X5_forgetOldest_h (w : F1) : kpOK (f_X5_forgetOldest_h w) := ⟨by show 0 ≤ (4 : Int32).toInt; decide, by show (4 : Int32).toInt ≤ 5; decide⟩
set_option maxHeartbeats 4000000 in
set_option maxRecDepth 100000 in
theorem c_X5_forgetOldest (l : Launch) (D : va_G) (ty : Nat → ClassId) (h : Nat) (am : Nat) (w : F1) (ms : F1) : MC l D ty yX5_forgetOldest cX5_forgetOldest 1 none 1 [.ref h] [(h, whE w am), (am, arE ty 5 ms)] none [(h, whE (f_X5_forgetOldest_h w) am), (am, arE ty 5 (f_X5_forgetOldest_am ms))] := by
  refine mc_v (by decide +kernel) (Nat.le_of_ble_eq_true rfl) ?_
  intro p e s m args below meth c A Q ls C hK hA X hret hl
  have hx := C.1
  have hb := C.2.1
  have hl : lv_has ls 1 [(0, .ref h)] := hl
  have X : Wd D A s.heap [(h, whE w am), (am, arE ty 5 ms)] s.heap [] := X
  refine lv_aload_n hx hb dX5_forgetOldest_0 rfl (lv_at hl 0 rfl) ?_
  refine get_wh_10 C hK X 0 rfl fl_X5_11 dX5_forgetOldest_1 ?_
  refine lv_iconst (v := 1) hx hb dX5_forgetOldest_4 (by decide) ?_
  refine lv_aload_n hx hb dX5_forgetOldest_5 rfl (lv_at hl 0 rfl) ?_
  refine get_wh_10 C hK X 0 rfl fl_X5_11 dX5_forgetOldest_6 ?_
  refine lv_iconst (v := 0) hx hb dX5_forgetOldest_9 (by decide) ?_
  refine lv_iconst (v := 4) hx hb dX5_forgetOldest_10 (by decide) ?_
  refine s_copyN C hK X hl.1 wm_X5_60 1 1 1 0 4 rfl rfl rfl rfl rfl (by decide) (by decide) (by decide) (by decide) (Nat.le_of_ble_eq_true rfl) (Nat.le_of_ble_eq_true rfl) dX5_forgetOldest_11 (fun H locs X => ?_)
  have X : Wd D A s.heap [(h, whE w am), (am, arE ty 5 (va_cpy ms ms 1 0 4))] H locs := X
  refine lv_aload_n hx hb dX5_forgetOldest_14 rfl (lv_at hl 0 rfl) ?_
  refine lv_iconst (v := 4) hx hb dX5_forgetOldest_15 (by decide) ?_
  refine put_wh_11 C hK X 0 rfl pl_X5_51 dX5_forgetOldest_16 (fun H locs X => ?_)
  have X : Wd D A s.heap [(h, whE (upd w 10 4) am), (am, arE ty 5 (va_cpy ms ms 1 0 4))] H locs := X
  have e_0_0 : (f_X5_forgetOldest_h w) = (upd w 10 4) := by first | (rw [f_X5_forgetOldest_h]; done) | (rw [f_X5_forgetOldest_h]; rfl) | (simp only [f_X5_forgetOldest_h]; done)
  have e_1_1 : (f_X5_forgetOldest_am ms) = (va_cpy ms ms 1 0 4) := by first | (rw [f_X5_forgetOldest_am]; done) | (rw [f_X5_forgetOldest_am]; rfl) | (simp only [f_X5_forgetOldest_am]; done)
  exact hret _ _ _ _ _ dX5_forgetOldest_19 X (by rw [e_0_0, e_1_1])
def v_X5_measure_1 (w : F1) : F1 := (if (w 10) < 5 then w else (f_X5_forgetOldest_h w))
def v_X5_measure_2 (w : F1) (ms : F1) : F1 := (if (w 10) < 5 then ms else (f_X5_forgetOldest_am ms))
theorem okm_X5_measure_3 (w : F1) (hk : kpOK w) : kpOK (v_X5_measure_1 w) := by
  by_cases k0 : (w 10) < 5
  · (try simp only [v_X5_measure_1, if_pos k0]); exact hk
  · (try simp only [v_X5_measure_1, if_neg k0]); exact (ok_X5_forgetOldest_h w)
def v_X5_measure_5 (w : F1) : Int32 := (if ((v_X5_measure_1 w) 9) = 0 then ((v_X5_measure_1 w) 0) else 0)
def v_X5_measure_7 (w : F1) (ms : F1) : Int32 := (if 2 ≤ (((v_X5_measure_1 w) 10) + 1) then (f_fdiv ((f_X5_latest (upd (v_X5_measure_1 w) 10 (((v_X5_measure_1 w) 10) + 1)) (upd (v_X5_measure_2 w ms) ((v_X5_measure_1 w) 10).toNatClampNeg (v_X5_measure_5 w))) - ((upd (v_X5_measure_2 w ms) ((v_X5_measure_1 w) 10).toNatClampNeg (v_X5_measure_5 w)) 0)) ((((v_X5_measure_1 w) 10) + 1) - 1)) else 0)
def f_X5_measure_h (w : F1) (ms : F1) : F1 := (upd (upd (v_X5_measure_1 w) 10 (((v_X5_measure_1 w) 10) + 1)) 11 (v_X5_measure_7 w ms))
def f_X5_measure_am (w : F1) (ms : F1) : F1 := (upd (v_X5_measure_2 w ms) ((v_X5_measure_1 w) 10).toNatClampNeg (v_X5_measure_5 w))
theorem meas_w10 (w : F1) : (v_X5_measure_1 w) 10 = if w 10 < 5 then w 10 else 4 := by
  unfold v_X5_measure_1; split <;> rfl
theorem meas_rng {w : F1} (hk : kpOK w) : 0 ≤ ((v_X5_measure_1 w) 10).toInt ∧ ((v_X5_measure_1 w) 10).toInt ≤ 4 := by
  rw [meas_w10]
  have h5 : (5 : Int32).toInt = 5 := rfl
  have h4 : (4 : Int32).toInt = 4 := rfl
  split
  · rename_i c; rw [lt_toInt] at c; exact ⟨hk.1, by omega⟩
  · exact ⟨by decide, by decide⟩
theorem meas_in {w : F1} (hk : kpOK w) : vp_in ((v_X5_measure_1 w) 10) 5 := by
  rw [vp_in_iff]; have := meas_rng hk; omega
theorem meas_kp {w : F1} (hk : kpOK w) : kpOK (upd (v_X5_measure_1 w) 10 (((v_X5_measure_1 w) 10) + 1)) := by
  have := meas_rng hk
  have h1 : (1 : Int32).toInt = 1 := rfl
  have e : (((v_X5_measure_1 w) 10) + 1).toInt = ((v_X5_measure_1 w) 10).toInt + 1 := by rw [add_i (by omega), h1]
  show 0 ≤ (((v_X5_measure_1 w) 10) + 1).toInt ∧ (((v_X5_measure_1 w) 10) + 1).toInt ≤ 5
  omega
theorem meas_ne {x : Int32} (c : 2 ≤ x + 1) : ¬ x + 1 - 1 = 0 := by
  intro h
  have : x + 1 = 1 := by
    have h2 := congrArg (· + 1) h
    simpa using h2
  rw [this] at c
  exact absurd c (by decide)

theorem ok_X5_measure_h (w : F1) (ms : F1) (hk : kpOK w) : kpOK (f_X5_measure_h w ms) := kp_upd (meas_kp hk)
set_option maxHeartbeats 4000000 in
set_option maxRecDepth 100000 in
theorem c_X5_measure (l : Launch) (D : va_G) (ty : Nat → ClassId) (h : Nat) (am : Nat) (w : F1) (ms : F1) (hk : kpOK w) : MC l D ty yX5_measure cX5_measure 1 none 2 [.ref h] [(h, whE w am), (am, arE ty 5 ms)] none [(h, whE (f_X5_measure_h w ms) am), (am, arE ty 5 (f_X5_measure_am w ms))] := by
  refine mc_v (by decide +kernel) (Nat.le_of_ble_eq_true rfl) ?_
  intro p e s m args below meth c A Q ls C hK hA X hret hl
  have hx := C.1
  have hb := C.2.1
  have hl : lv_has ls 1 [(0, .ref h)] := hl
  have X : Wd D A s.heap [(h, whE w am), (am, arE ty 5 ms)] s.heap [] := X
  refine lv_aload_n hx hb dX5_measure_0 rfl (lv_at hl 0 rfl) ?_
  refine get_wh_11 C hK X 0 rfl fl_X5_51 dX5_measure_1 ?_
  refine lv_iconst (v := 5) hx hb dX5_measure_4 (by decide) ?_
  have J12_4 : ∀ (x1 : F1) (x2 : F1) (ls : Array Slot) (H : Heap) (locs : List Loc), x1 = (v_X5_measure_1 w) → x2 = (v_X5_measure_2 w ms) → lv_has ls 1 [(0, .ref h)] → Wd D A s.heap [(h, whE x1 am), (am, arE ty 5 x2)] H locs → W p l e (rmD 2) s m args below meth c H locs 0 0 Q (F0 m 12 ls []) := by
    intro x1 x2 ls H locs ex1 ex2 hl X
    subst ex1; subst ex2
    refine lv_aload_n hx hb dX5_measure_12 rfl (lv_at hl 0 rfl) ?_
    refine get_wh_10 C hK X 0 rfl fl_X5_11 dX5_measure_13 ?_
    refine lv_aload_n hx hb dX5_measure_16 rfl (lv_at hl 0 rfl) ?_
    refine get_wh_11 C hK X 0 rfl fl_X5_51 dX5_measure_17 ?_
    refine lv_aload_n hx hb dX5_measure_20 rfl (lv_at hl 0 rfl) ?_
    refine get_wh_9 C hK X 0 rfl fl_X5_33 dX5_measure_21 ?_
    have J35_6 : ∀ (x5 : Int32) (ls : Array Slot) (H : Heap) (locs : List Loc), x5 = (v_X5_measure_5 w) → lv_has ls 1 [(0, .ref h)] → Wd D A s.heap [(h, whE (v_X5_measure_1 w) am), (am, arE ty 5 (v_X5_measure_2 w ms))] H locs → W p l e (rmD 2) s m args below meth c H locs 0 0 Q (F0 m 35 ls [.int x5, .int ((v_X5_measure_1 w) 10), .ref am]) := by
      intro x5 ls H locs ex5 hl X
      subst ex5
      refine s_iast C hK X 1 rfl (meas_in hk) dX5_measure_35 (fun H locs X => ?_)
      have X : Wd D A s.heap [(h, whE (v_X5_measure_1 w) am), (am, arE ty 5 (upd (v_X5_measure_2 w ms) ((v_X5_measure_1 w) 10).toNatClampNeg (v_X5_measure_5 w)))] H locs := X
      refine lv_aload_n hx hb dX5_measure_36 rfl (lv_at hl 0 rfl) ?_
      refine lv_dup hx hb dX5_measure_37 rfl ?_
      refine get_wh_11 C hK X 0 rfl fl_X5_51 dX5_measure_38 ?_
      refine lv_iconst (v := 1) hx hb dX5_measure_41 (by decide) ?_
      refine lv_iadd hx hb dX5_measure_42 ?_
      refine put_wh_11 C hK X 0 rfl pl_X5_51 dX5_measure_43 (fun H locs X => ?_)
      have X : Wd D A s.heap [(h, whE (upd (v_X5_measure_1 w) 10 (((v_X5_measure_1 w) 10) + 1)) am), (am, arE ty 5 (upd (v_X5_measure_2 w ms) ((v_X5_measure_1 w) 10).toNatClampNeg (v_X5_measure_5 w)))] H locs := X
      refine lv_aload_n hx hb dX5_measure_46 rfl (lv_at hl 0 rfl) ?_
      refine lv_aload_n hx hb dX5_measure_47 rfl (lv_at hl 0 rfl) ?_
      refine get_wh_11 C hK X 0 rfl fl_X5_51 dX5_measure_48 ?_
      refine s_eqi (y := (((v_X5_measure_1 w) 10) + 1)) pk_us ?_
      refine lv_iconst (v := 2) hx hb dX5_measure_51 (by decide) ?_
      have J79_8 : ∀ (x7 : Int32) (ls : Array Slot) (H : Heap) (locs : List Loc), x7 = (v_X5_measure_7 w ms) → lv_has ls 1 [(0, .ref h)] → Wd D A s.heap [(h, whE (upd (v_X5_measure_1 w) 10 (((v_X5_measure_1 w) 10) + 1)) am), (am, arE ty 5 (upd (v_X5_measure_2 w ms) ((v_X5_measure_1 w) 10).toNatClampNeg (v_X5_measure_5 w)))] H locs → W p l e (rmD 2) s m args below meth c H locs 0 0 Q (F0 m 79 ls [.int x7, .ref h]) := by
        intro x7 ls H locs ex7 hl X
        subst ex7
        refine put_wh_12 C hK X 0 rfl pl_X5_54 dX5_measure_79 (fun H locs X => ?_)
        have X : Wd D A s.heap [(h, whE (upd (upd (v_X5_measure_1 w) 10 (((v_X5_measure_1 w) 10) + 1)) 11 (v_X5_measure_7 w ms)) am), (am, arE ty 5 (upd (v_X5_measure_2 w ms) ((v_X5_measure_1 w) 10).toNatClampNeg (v_X5_measure_5 w)))] H locs := X
        have e_0_0 : (f_X5_measure_h w ms) = (upd (upd (v_X5_measure_1 w) 10 (((v_X5_measure_1 w) 10) + 1)) 11 (v_X5_measure_7 w ms)) := by first | (rw [f_X5_measure_h]; done) | (rw [f_X5_measure_h]; rfl) | (simp only [f_X5_measure_h]; done)
        have e_1_1 : (f_X5_measure_am w ms) = (upd (v_X5_measure_2 w ms) ((v_X5_measure_1 w) 10).toNatClampNeg (v_X5_measure_5 w)) := by first | (rw [f_X5_measure_am]; done) | (rw [f_X5_measure_am]; rfl) | (simp only [f_X5_measure_am]; done)
        exact hret _ _ _ _ _ dX5_measure_82 X (by rw [e_0_0, e_1_1])
      refine lv_icmp_ge (tgt := 59) hx hb dX5_measure_52 (by decide) (fun c0_0 => ?_) (fun c0_0 => ?_)
      · refine lv_aload_n hx hb dX5_measure_59 rfl (lv_at hl 0 rfl) ?_
        refine s_cV0i C hK hA X (c_X5_latest l D ty h am (upd (v_X5_measure_1 w) 10 (((v_X5_measure_1 w) 10) + 1)) (upd (v_X5_measure_2 w ms) ((v_X5_measure_1 w) 10).toNatClampNeg (v_X5_measure_5 w)) (meas_kp hk)) [0, 1] (pk_c rfl (pk_c rfl pk_n)) rfl ml_X5_latest wm_X5_84 (q0 := 0) rfl rfl rfl ⟨Nat.le_of_ble_eq_true rfl, Nat.le_of_ble_eq_true rfl⟩ ⟨Nat.zero_le _, Nat.zero_le _⟩ hl.1 rfl (Nat.le_of_ble_eq_true rfl) dX5_measure_60 (fun H locs X => ?_)
        refine lv_aload_n hx hb dX5_measure_63 rfl (lv_at hl 0 rfl) ?_
        refine get_wh_10 C hK X 0 rfl fl_X5_11 dX5_measure_64 ?_
        refine lv_iconst (v := 0) hx hb dX5_measure_67 (by decide) ?_
        refine s_ialN C hK X 1 0 rfl rfl (by decide) (by decide) dX5_measure_68 ?_
        refine lv_isub hx hb dX5_measure_69 ?_
        refine lv_aload_n hx hb dX5_measure_70 rfl (lv_at hl 0 rfl) ?_
        refine get_wh_11 C hK X 0 rfl fl_X5_51 dX5_measure_71 ?_
        refine s_eqi (y := (((v_X5_measure_1 w) 10) + 1)) pk_us ?_
        refine lv_iconst (v := 1) hx hb dX5_measure_74 (by decide) ?_
        refine lv_isub hx hb dX5_measure_75 ?_
        refine s_cS0i C hK hA X (c_fdiv l D ty ((f_X5_latest (upd (v_X5_measure_1 w) 10 (((v_X5_measure_1 w) 10) + 1)) (upd (v_X5_measure_2 w ms) ((v_X5_measure_1 w) 10).toNatClampNeg (v_X5_measure_5 w))) - ((upd (v_X5_measure_2 w ms) ((v_X5_measure_1 w) 10).toNatClampNeg (v_X5_measure_5 w)) 0)) ((((v_X5_measure_1 w) 10) + 1) - 1) (meas_ne c0_0)) [] pk_n rfl sl_J9_floorDiv_7cf53 wm_X5_66 ⟨Nat.le_of_ble_eq_true rfl, Nat.le_of_ble_eq_true rfl⟩ ⟨Nat.zero_le _, Nat.zero_le _⟩ hl.1 rfl (Nat.le_of_ble_eq_true rfl) dX5_measure_76 (fun H locs X => ?_)
        exact J79_8 (f_fdiv ((f_X5_latest (upd (v_X5_measure_1 w) 10 (((v_X5_measure_1 w) 10) + 1)) (upd (v_X5_measure_2 w ms) ((v_X5_measure_1 w) 10).toNatClampNeg (v_X5_measure_5 w))) - ((upd (v_X5_measure_2 w ms) ((v_X5_measure_1 w) 10).toNatClampNeg (v_X5_measure_5 w)) 0)) ((((v_X5_measure_1 w) 10) + 1) - 1)) _ _ _ (by first | (rw [v_X5_measure_7, if_pos c0_0]; done) | (rw [v_X5_measure_7, if_pos c0_0]; rfl) | (simp only [v_X5_measure_7, if_pos c0_0]; done)) (lv_sub hl [0] rfl) X
      · refine lv_iconst (v := 0) hx hb dX5_measure_55 (by decide) ?_
        refine lv_goto (tgt := 79) hx hb dX5_measure_56 (by decide) ?_
        exact J79_8 0 _ _ _ (by first | (rw [v_X5_measure_7, if_neg c0_0]; done) | (rw [v_X5_measure_7, if_neg c0_0]; rfl) | (simp only [v_X5_measure_7, if_neg c0_0]; done)) (lv_sub hl [0] rfl) X
    refine lv_if_eq (tgt := 31) hx hb dX5_measure_24 (by decide) (fun c0_0 => ?_) (fun c0_0 => ?_)
    · refine lv_aload_n hx hb dX5_measure_31 rfl (lv_at hl 0 rfl) ?_
      refine get_wh_0 C hK X 0 rfl fl_X5_36 dX5_measure_32 ?_
      exact J35_6 ((v_X5_measure_1 w) 0) _ _ _ (by first | (rw [v_X5_measure_5, if_pos c0_0]; done) | (rw [v_X5_measure_5, if_pos c0_0]; rfl) | (simp only [v_X5_measure_5, if_pos c0_0]; done)) (lv_sub hl [0] rfl) X
    · refine lv_iconst (v := 0) hx hb dX5_measure_27 (by decide) ?_
      refine lv_goto (tgt := 35) hx hb dX5_measure_28 (by decide) ?_
      exact J35_6 0 _ _ _ (by first | (rw [v_X5_measure_5, if_neg c0_0]; done) | (rw [v_X5_measure_5, if_neg c0_0]; rfl) | (simp only [v_X5_measure_5, if_neg c0_0]; done)) (lv_sub hl [0] rfl) X
  refine lv_icmp_lt (tgt := 12) hx hb dX5_measure_5 (by decide) (fun c0_0 => ?_) (fun c0_0 => ?_)
  · exact J12_4 w ms _ _ _ (by first | (rw [v_X5_measure_1, if_pos c0_0]; done) | (rw [v_X5_measure_1, if_pos c0_0]; rfl) | (simp only [v_X5_measure_1, if_pos c0_0]; done)) (by first | (rw [v_X5_measure_2, if_pos c0_0]; done) | (rw [v_X5_measure_2, if_pos c0_0]; rfl) | (simp only [v_X5_measure_2, if_pos c0_0]; done)) (lv_sub hl [0] rfl) X
  · refine lv_aload_n hx hb dX5_measure_8 rfl (lv_at hl 0 rfl) ?_
    refine s_cVv (ws' := [(h, whE (f_X5_forgetOldest_h w) am), (am, arE ty 5 (f_X5_forgetOldest_am ms))]) C hK hA X (c_X5_forgetOldest l D ty h am w ms) [0, 1] (pk_c rfl (pk_c rfl pk_n)) rfl (pk_c rfl (pk_c rfl pk_n)) (em_t (em_t em_n)) rfl ml_X5_forgetOldest wm_X5_81 (q0 := 0) rfl rfl rfl ⟨Nat.le_of_ble_eq_true rfl, Nat.le_of_ble_eq_true rfl⟩ ⟨Nat.zero_le _, Nat.zero_le _⟩ hl.1 rfl (Nat.le_of_ble_eq_true rfl) dX5_measure_9 (fun H locs X => ?_)
    exact J12_4 (f_X5_forgetOldest_h w) (f_X5_forgetOldest_am ms) _ _ _ (by first | (rw [v_X5_measure_1, if_neg c0_0]; done) | (rw [v_X5_measure_1, if_neg c0_0]; rfl) | (simp only [v_X5_measure_1, if_neg c0_0]; done)) (by first | (rw [v_X5_measure_2, if_neg c0_0]; done) | (rw [v_X5_measure_2, if_neg c0_0]; rfl) | (simp only [v_X5_measure_2, if_neg c0_0]; done)) (lv_sub hl [0] rfl) X
def v_X5_estimateSlip_1 (w : F1) (ms : F1) (rf : Int32) : Int32 := (if rf ≤ 0 then 0 else (if 0 < (rf - (f_X5_latest w ms)) then (f_fdiv (1000 * (rf - (f_X5_latest w ms))) rf) else 0))
def f_X5_estimateSlip_h (w : F1) (ms : F1) (rf : Int32) : F1 := (upd w 12 (v_X5_estimateSlip_1 w ms rf))
theorem ok_X5_estimateSlip_h (w : F1) (ms : F1) (rf : Int32) (hk : kpOK w) : kpOK (f_X5_estimateSlip_h w ms rf) := by
  (try simp only [f_X5_estimateSlip_h]); exact (kp_upd hk)
set_option maxHeartbeats 4000000 in
set_option maxRecDepth 100000 in
theorem c_X5_estimateSlip (l : Launch) (D : va_G) (ty : Nat → ClassId) (h : Nat) (am : Nat) (w : F1) (ms : F1) (rf : Int32) (hk : kpOK w) : MC l D ty yX5_estimateSlip cX5_estimateSlip 3 none 1 [.ref h, .int rf] [(h, whE w am), (am, arE ty 5 ms)] none [(h, whE (f_X5_estimateSlip_h w ms rf) am), (am, arE ty 5 ms)] := by
  refine mc_v (by decide +kernel) (Nat.le_of_ble_eq_true rfl) ?_
  intro p e s m args below meth c A Q ls C hK hA X hret hl
  have hx := C.1
  have hb := C.2.1
  have hl : lv_has ls 3 [(0, .ref h), (1, .int rf)] := hl
  have X : Wd D A s.heap [(h, whE w am), (am, arE ty 5 ms)] s.heap [] := X
  refine lv_iload_n hx hb dX5_estimateSlip_0 rfl (lv_at hl 1 rfl) ?_
  refine lv_aload_n hx hb dX5_estimateSlip_1 rfl (lv_at hl 0 rfl) ?_
  refine s_cV0i C hK hA X (c_X5_latest l D ty h am w ms hk) [0, 1] (pk_c rfl (pk_c rfl pk_n)) rfl ml_X5_latest wm_X5_84 (q0 := 0) rfl rfl rfl ⟨Nat.le_of_ble_eq_true rfl, Nat.le_of_ble_eq_true rfl⟩ ⟨Nat.zero_le _, Nat.zero_le _⟩ hl.1 rfl (Nat.le_of_ble_eq_true rfl) dX5_estimateSlip_2 (fun H locs X => ?_)
  refine lv_isub hx hb dX5_estimateSlip_5 ?_
  refine lv_istore_n (lv' := [(2, .int (rf - (f_X5_latest w ms))), (0, .ref h), (1, .int rf)]) hx hb dX5_estimateSlip_6 rfl hl (by decide) rfl (fun ls hl => ?_)
  refine lv_aload_n hx hb dX5_estimateSlip_7 rfl (lv_at hl 1 rfl) ?_
  refine lv_iload_n hx hb dX5_estimateSlip_8 rfl (lv_at hl 2 rfl) ?_
  have J29_2 : ∀ (x1 : Int32) (ls : Array Slot) (H : Heap) (locs : List Loc), x1 = (v_X5_estimateSlip_1 w ms rf) → lv_has ls 3 [(2, .int (rf - (f_X5_latest w ms))), (0, .ref h), (1, .int rf)] → Wd D A s.heap [(h, whE w am), (am, arE ty 5 ms)] H locs → W p l e (rmD 1) s m args below meth c H locs 0 0 Q (F0 m 29 ls [.int x1, .ref h]) := by
    intro x1 ls H locs ex1 hl X
    subst ex1
    refine put_wh_13 C hK X 0 rfl pl_X5_57 dX5_estimateSlip_29 (fun H locs X => ?_)
    have X : Wd D A s.heap [(h, whE (upd w 12 (v_X5_estimateSlip_1 w ms rf)) am), (am, arE ty 5 ms)] H locs := X
    have e_0_0 : (f_X5_estimateSlip_h w ms rf) = (upd w 12 (v_X5_estimateSlip_1 w ms rf)) := by first | (rw [f_X5_estimateSlip_h]; done) | (rw [f_X5_estimateSlip_h]; rfl) | (simp only [f_X5_estimateSlip_h]; done)
    exact hret _ _ _ _ _ dX5_estimateSlip_32 X (by rw [e_0_0])
  refine lv_if_le (tgt := 16) hx hb dX5_estimateSlip_9 (by decide) (fun c0_0 => ?_) (fun c0_0 => ?_)
  · refine lv_iconst (v := 0) hx hb dX5_estimateSlip_16 (by decide) ?_
    refine lv_goto (tgt := 29) hx hb dX5_estimateSlip_17 (by decide) ?_
    exact J29_2 0 _ _ _ (by first | (rw [v_X5_estimateSlip_1, if_pos c0_0]; done) | (rw [v_X5_estimateSlip_1, if_pos c0_0]; rfl) | (simp only [v_X5_estimateSlip_1, if_pos c0_0]; done)) (lv_sub hl [0, 1, 2] rfl) X
  · refine lv_iload_n hx hb dX5_estimateSlip_12 rfl (lv_at hl 0 rfl) ?_
    refine lv_if_gt (tgt := 20) hx hb dX5_estimateSlip_13 (by decide) (fun c1_1 => ?_) (fun c1_1 => ?_)
    · refine lv_sipush (v := 1000) hx hb dX5_estimateSlip_20 (by decide) ?_
      refine lv_iload_n hx hb dX5_estimateSlip_23 rfl (lv_at hl 0 rfl) ?_
      refine lv_imul hx hb dX5_estimateSlip_24 ?_
      refine lv_iload_n hx hb dX5_estimateSlip_25 rfl (lv_at hl 2 rfl) ?_
      refine s_cS0i C hK hA X (c_fdiv l D ty (1000 * (rf - (f_X5_latest w ms))) rf (ne0_nle c0_0)) [] pk_n rfl sl_J9_floorDiv_7cf53 wm_X5_66 ⟨Nat.le_of_ble_eq_true rfl, Nat.le_of_ble_eq_true rfl⟩ ⟨Nat.zero_le _, Nat.zero_le _⟩ hl.1 rfl (Nat.le_of_ble_eq_true rfl) dX5_estimateSlip_26 (fun H locs X => ?_)
      exact J29_2 (f_fdiv (1000 * (rf - (f_X5_latest w ms))) rf) _ _ _ (by first | (rw [v_X5_estimateSlip_1, if_neg c0_0, if_pos c1_1]; done) | (rw [v_X5_estimateSlip_1, if_neg c0_0, if_pos c1_1]; rfl) | (simp only [v_X5_estimateSlip_1, if_neg c0_0, if_pos c1_1]; done)) (lv_sub hl [0, 1, 2] rfl) X
    · refine lv_iconst (v := 0) hx hb dX5_estimateSlip_16 (by decide) ?_
      refine lv_goto (tgt := 29) hx hb dX5_estimateSlip_17 (by decide) ?_
      exact J29_2 0 _ _ _ (by first | (rw [v_X5_estimateSlip_1, if_neg c0_0, if_neg c1_1]; done) | (rw [v_X5_estimateSlip_1, if_neg c0_0, if_neg c1_1]; rfl) | (simp only [v_X5_estimateSlip_1, if_neg c0_0, if_neg c1_1]; done)) (lv_sub hl [0, 1, 2] rfl) X
def f_X5_enter_h (w : F1) (ph : Int32) : F1 := (if ph = 2 then (upd (upd (upd (upd w 2 ph) 3 0) 5 ((w 5) + 1)) 4 ((w 4) + 1)) else (upd (upd (upd w 2 ph) 3 0) 5 ((w 5) + 1)))
theorem ok_X5_enter_h (w : F1) (ph : Int32) (tk_h : kpOK w) : kpOK (f_X5_enter_h w ph) := by
  by_cases k0 : ph = 2
  · (try simp only [f_X5_enter_h, if_pos k0]); exact (kp_upd (kp_upd (kp_upd (kp_upd tk_h))))
  · (try simp only [f_X5_enter_h, if_neg k0]); exact (kp_upd (kp_upd (kp_upd tk_h)))
set_option maxHeartbeats 4000000 in
set_option maxRecDepth 100000 in
theorem c_X5_enter (l : Launch) (D : va_G) (ty : Nat → ClassId) (h : Nat) (am : Nat) (w : F1) (ph : Int32) : MC l D ty yX5_enter cX5_enter 2 none 0 [.ref h, .int ph] [(h, whE w am)] none [(h, whE (f_X5_enter_h w ph) am)] := by
  refine mc_v (by decide +kernel) (Nat.le_of_ble_eq_true rfl) ?_
  intro p e s m args below meth c A Q ls C hK hA X hret hl
  have hx := C.1
  have hb := C.2.1
  have hl : lv_has ls 2 [(0, .ref h), (1, .int ph)] := hl
  have X : Wd D A s.heap [(h, whE w am)] s.heap [] := X
  refine lv_aload_n hx hb dX5_enter_0 rfl (lv_at hl 0 rfl) ?_
  refine lv_iload_n hx hb dX5_enter_1 rfl (lv_at hl 1 rfl) ?_
  refine put_wh_2 C hK X 0 rfl pl_X5_42 dX5_enter_2 (fun H locs X => ?_)
  have X : Wd D A s.heap [(h, whE (upd w 2 ph) am)] H locs := X
  refine lv_aload_n hx hb dX5_enter_5 rfl (lv_at hl 0 rfl) ?_
  refine lv_iconst (v := 0) hx hb dX5_enter_6 (by decide) ?_
  refine put_wh_3 C hK X 0 rfl pl_X5_45 dX5_enter_7 (fun H locs X => ?_)
  have X : Wd D A s.heap [(h, whE (upd (upd w 2 ph) 3 0) am)] H locs := X
  refine lv_aload_n hx hb dX5_enter_10 rfl (lv_at hl 0 rfl) ?_
  refine lv_dup hx hb dX5_enter_11 rfl ?_
  refine get_wh_5 C hK X 0 rfl fl_X5_23 dX5_enter_12 ?_
  refine s_eqi (y := (w 5)) ((pk_un (by decide)).trans (pk_un (by decide))) ?_
  refine lv_iconst (v := 1) hx hb dX5_enter_15 (by decide) ?_
  refine lv_iadd hx hb dX5_enter_16 ?_
  refine put_wh_5 C hK X 0 rfl pl_X5_23 dX5_enter_17 (fun H locs X => ?_)
  have X : Wd D A s.heap [(h, whE (upd (upd (upd w 2 ph) 3 0) 5 ((w 5) + 1)) am)] H locs := X
  refine lv_iload_n hx hb dX5_enter_20 rfl (lv_at hl 1 rfl) ?_
  refine lv_iconst (v := 2) hx hb dX5_enter_21 (by decide) ?_
  refine lv_icmp_ne (tgt := 35) hx hb dX5_enter_22 (by decide) (fun c0_0 => ?_) (fun c0_0 => ?_)
  · have e_0_0 : (f_X5_enter_h w ph) = (upd (upd (upd w 2 ph) 3 0) 5 ((w 5) + 1)) := by first | (rw [f_X5_enter_h, if_neg c0_0]; done) | (rw [f_X5_enter_h, if_neg c0_0]; rfl) | (simp only [f_X5_enter_h, if_neg c0_0]; done)
    exact hret _ _ _ _ _ dX5_enter_35 X (by rw [e_0_0])
  · refine lv_aload_n hx hb dX5_enter_25 rfl (lv_at hl 0 rfl) ?_
    refine lv_dup hx hb dX5_enter_26 rfl ?_
    refine get_wh_4 C hK X 0 rfl fl_X5_19 dX5_enter_27 ?_
    refine s_eqi (y := (w 4)) ((pk_un (by decide)).trans ((pk_un (by decide)).trans (pk_un (by decide)))) ?_
    refine lv_iconst (v := 1) hx hb dX5_enter_30 (by decide) ?_
    refine lv_iadd hx hb dX5_enter_31 ?_
    refine put_wh_4 C hK X 0 rfl pl_X5_19 dX5_enter_32 (fun H locs X => ?_)
    have X : Wd D A s.heap [(h, whE (upd (upd (upd (upd w 2 ph) 3 0) 5 ((w 5) + 1)) 4 ((w 4) + 1)) am)] H locs := X
    have e_0_0 : (f_X5_enter_h w ph) = (upd (upd (upd (upd w 2 ph) 3 0) 5 ((w 5) + 1)) 4 ((w 4) + 1)) := by first | (rw [f_X5_enter_h, if_pos c0_0]; done) | (rw [f_X5_enter_h, if_pos c0_0]; rfl) | (simp only [f_X5_enter_h, if_pos c0_0]; done)
    exact hret _ _ _ _ _ dX5_enter_35 X (by rw [e_0_0])
def v_X5_movePressure_1 (w : F1) (wd : Int32) : Int32 := (if wd ≤ (w 1) then (mx ((w 1) - 80) wd) else (mn ((w 1) + 40) wd))
def v_X5_movePressure_3 (w : F1) : Int32 := (if ((w 3) - (w 3) / 2 * 2) = 0 then (w 1) else ((w 1) + 20))
def v_X5_movePressure_5 (w : F1) (wd : Int32) : Int32 := (if wd ≤ (w 1) then (mx ((w 1) - 80) wd) else (mn ((w 1) + 40) wd))
def f_X5_movePressure_h (w : F1) (wd : Int32) : F1 := (if (w 2) = 1 then (upd w 1 (mn (w 1) wd)) else (if (w 2) = 2 then (upd w 1 (v_X5_movePressure_1 w wd)) else (if (w 2) = 3 then (upd w 1 (mn (w 1) wd)) else (if (w 2) = 4 then (upd w 1 (mn (v_X5_movePressure_3 w) wd)) else (upd w 1 (v_X5_movePressure_5 w wd))))))
theorem ok_X5_movePressure_h (w : F1) (wd : Int32) (tk_h : kpOK w) : kpOK (f_X5_movePressure_h w wd) := by
  by_cases k0 : (w 2) = 1
  · (try simp only [f_X5_movePressure_h, if_pos k0]); exact (kp_upd tk_h)
  · by_cases k1 : (w 2) = 2
    · (try simp only [f_X5_movePressure_h, if_neg k0, if_pos k1]); exact (kp_upd tk_h)
    · by_cases k2 : (w 2) = 3
      · (try simp only [f_X5_movePressure_h, if_neg k0, if_neg k1, if_pos k2]); exact (kp_upd tk_h)
      · by_cases k3 : (w 2) = 4
        · (try simp only [f_X5_movePressure_h, if_neg k0, if_neg k1, if_neg k2, if_pos k3]); exact (kp_upd tk_h)
        · (try simp only [f_X5_movePressure_h, if_neg k0, if_neg k1, if_neg k2, if_neg k3]); exact (kp_upd tk_h)
set_option maxHeartbeats 4000000 in
set_option maxRecDepth 100000 in
theorem c_X5_movePressure (l : Launch) (D : va_G) (ty : Nat → ClassId) (h : Nat) (am : Nat) (w : F1) (wd : Int32) : MC l D ty yX5_movePressure cX5_movePressure 2 none 1 [.ref h, .int wd] [(h, whE w am)] none [(h, whE (f_X5_movePressure_h w wd) am)] := by
  refine mc_v (by decide +kernel) (Nat.le_of_ble_eq_true rfl) ?_
  intro p e s m args below meth c A Q ls C hK hA X hret hl
  have hx := C.1
  have hb := C.2.1
  have hl : lv_has ls 2 [(0, .ref h), (1, .int wd)] := hl
  have X : Wd D A s.heap [(h, whE w am)] s.heap [] := X
  refine lv_aload_n hx hb dX5_movePressure_0 rfl (lv_at hl 0 rfl) ?_
  refine get_wh_2 C hK X 0 rfl fl_X5_42 dX5_movePressure_1 ?_
  by_cases c0_0 : (w 2) = 1
  · refine lv_tableIn (off := 32) (tgt := 36) hx hb dX5_movePressure_4 (by rw [c0_0]; decide) (by rw [c0_0]; decide) (by rw [c0_0]; rfl) (by decide) ?_
    refine lv_aload_n hx hb dX5_movePressure_36 rfl (lv_at hl 0 rfl) ?_
    refine lv_aload_n hx hb dX5_movePressure_37 rfl (lv_at hl 0 rfl) ?_
    refine get_wh_1 C hK X 0 rfl fl_X5_39 dX5_movePressure_38 ?_
    refine lv_iload_n hx hb dX5_movePressure_41 rfl (lv_at hl 1 rfl) ?_
    refine s_mn C hl.1 wm_X5_78 (Nat.le_of_ble_eq_true rfl) (Nat.le_of_ble_eq_true rfl) ⟨Nat.zero_le _, Nat.zero_le _⟩ dX5_movePressure_42 ?_
    refine put_wh_1 C hK X 0 rfl pl_X5_39 dX5_movePressure_45 (fun H locs X => ?_)
    have X : Wd D A s.heap [(h, whE (upd w 1 (mn (w 1) wd)) am)] H locs := X
    refine lv_goto (tgt := 122) hx hb dX5_movePressure_48 (by decide) ?_
    have e_0_0 : (f_X5_movePressure_h w wd) = (upd w 1 (mn (w 1) wd)) := by first | (rw [f_X5_movePressure_h, if_pos c0_0]; done) | (rw [f_X5_movePressure_h, if_pos c0_0]; rfl) | (simp only [f_X5_movePressure_h, if_pos c0_0]; done)
    exact hret _ _ _ _ _ dX5_movePressure_122 X (by rw [e_0_0])
  · by_cases c1_1 : (w 2) = 2
    · refine lv_tableIn (off := 81) (tgt := 85) hx hb dX5_movePressure_4 (by rw [c1_1]; decide) (by rw [c1_1]; decide) (by rw [c1_1]; rfl) (by decide) ?_
      refine lv_aload_n hx hb dX5_movePressure_85 rfl (lv_at hl 0 rfl) ?_
      refine lv_aload_n hx hb dX5_movePressure_86 rfl (lv_at hl 0 rfl) ?_
      refine get_wh_1 C hK X 0 rfl fl_X5_39 dX5_movePressure_87 ?_
      refine lv_iload_n hx hb dX5_movePressure_90 rfl (lv_at hl 1 rfl) ?_
      have J119_2 : ∀ (x1 : Int32) (ls : Array Slot) (H : Heap) (locs : List Loc), x1 = (v_X5_movePressure_1 w wd) → lv_has ls 2 [(0, .ref h), (1, .int wd)] → Wd D A s.heap [(h, whE w am)] H locs → W p l e (rmD 1) s m args below meth c H locs 0 0 Q (F0 m 119 ls [.int x1, .ref h]) := by
        intro x1 ls H locs ex1 hl X
        subst ex1
        refine put_wh_1 C hK X 0 rfl pl_X5_39 dX5_movePressure_119 (fun H locs X => ?_)
        have X : Wd D A s.heap [(h, whE (upd w 1 (v_X5_movePressure_1 w wd)) am)] H locs := X
        have e_0_0 : (f_X5_movePressure_h w wd) = (upd w 1 (v_X5_movePressure_1 w wd)) := by first | (rw [f_X5_movePressure_h, if_neg c0_0, if_pos c1_1]; done) | (rw [f_X5_movePressure_h, if_neg c0_0, if_pos c1_1]; rfl) | (simp only [f_X5_movePressure_h, if_neg c0_0, if_pos c1_1]; done)
        exact hret _ _ _ _ _ dX5_movePressure_122 X (by rw [e_0_0])
      refine lv_icmp_ge (tgt := 108) hx hb dX5_movePressure_91 (by decide) (fun c2_2 => ?_) (fun c2_2 => ?_)
      · refine lv_aload_n hx hb dX5_movePressure_108 rfl (lv_at hl 0 rfl) ?_
        refine get_wh_1 C hK X 0 rfl fl_X5_39 dX5_movePressure_109 ?_
        refine lv_bipush (v := 80) hx hb dX5_movePressure_112 (by decide) ?_
        refine lv_isub hx hb dX5_movePressure_114 ?_
        refine lv_iload_n hx hb dX5_movePressure_115 rfl (lv_at hl 1 rfl) ?_
        refine s_mx C hl.1 wm_X5_75 (Nat.le_of_ble_eq_true rfl) (Nat.le_of_ble_eq_true rfl) ⟨Nat.zero_le _, Nat.zero_le _⟩ dX5_movePressure_116 ?_
        exact J119_2 (mx ((w 1) - 80) wd) _ _ _ (by first | (rw [v_X5_movePressure_1, if_pos c2_2]; done) | (rw [v_X5_movePressure_1, if_pos c2_2]; rfl) | (simp only [v_X5_movePressure_1, if_pos c2_2]; done)) (lv_sub hl [0, 1] rfl) X
      · refine lv_aload_n hx hb dX5_movePressure_94 rfl (lv_at hl 0 rfl) ?_
        refine get_wh_1 C hK X 0 rfl fl_X5_39 dX5_movePressure_95 ?_
        refine lv_bipush (v := 40) hx hb dX5_movePressure_98 (by decide) ?_
        refine lv_iadd hx hb dX5_movePressure_100 ?_
        refine lv_iload_n hx hb dX5_movePressure_101 rfl (lv_at hl 1 rfl) ?_
        refine s_mn C hl.1 wm_X5_78 (Nat.le_of_ble_eq_true rfl) (Nat.le_of_ble_eq_true rfl) ⟨Nat.zero_le _, Nat.zero_le _⟩ dX5_movePressure_102 ?_
        refine lv_goto (tgt := 119) hx hb dX5_movePressure_105 (by decide) ?_
        exact J119_2 (mn ((w 1) + 40) wd) _ _ _ (by first | (rw [v_X5_movePressure_1, if_neg c2_2]; done) | (rw [v_X5_movePressure_1, if_neg c2_2]; rfl) | (simp only [v_X5_movePressure_1, if_neg c2_2]; done)) (lv_sub hl [0, 1] rfl) X
    · by_cases c2_2 : (w 2) = 3
      · refine lv_tableIn (off := 32) (tgt := 36) hx hb dX5_movePressure_4 (by rw [c2_2]; decide) (by rw [c2_2]; decide) (by rw [c2_2]; rfl) (by decide) ?_
        refine lv_aload_n hx hb dX5_movePressure_36 rfl (lv_at hl 0 rfl) ?_
        refine lv_aload_n hx hb dX5_movePressure_37 rfl (lv_at hl 0 rfl) ?_
        refine get_wh_1 C hK X 0 rfl fl_X5_39 dX5_movePressure_38 ?_
        refine lv_iload_n hx hb dX5_movePressure_41 rfl (lv_at hl 1 rfl) ?_
        refine s_mn C hl.1 wm_X5_78 (Nat.le_of_ble_eq_true rfl) (Nat.le_of_ble_eq_true rfl) ⟨Nat.zero_le _, Nat.zero_le _⟩ dX5_movePressure_42 ?_
        refine put_wh_1 C hK X 0 rfl pl_X5_39 dX5_movePressure_45 (fun H locs X => ?_)
        have X : Wd D A s.heap [(h, whE (upd w 1 (mn (w 1) wd)) am)] H locs := X
        refine lv_goto (tgt := 122) hx hb dX5_movePressure_48 (by decide) ?_
        have e_0_0 : (f_X5_movePressure_h w wd) = (upd w 1 (mn (w 1) wd)) := by first | (rw [f_X5_movePressure_h, if_neg c0_0, if_neg c1_1, if_pos c2_2]; done) | (rw [f_X5_movePressure_h, if_neg c0_0, if_neg c1_1, if_pos c2_2]; rfl) | (simp only [f_X5_movePressure_h, if_neg c0_0, if_neg c1_1, if_pos c2_2]; done)
        exact hret _ _ _ _ _ dX5_movePressure_122 X (by rw [e_0_0])
      · by_cases c3_3 : (w 2) = 4
        · refine lv_tableIn (off := 47) (tgt := 51) hx hb dX5_movePressure_4 (by rw [c3_3]; decide) (by rw [c3_3]; decide) (by rw [c3_3]; rfl) (by decide) ?_
          refine lv_aload_n hx hb dX5_movePressure_51 rfl (lv_at hl 0 rfl) ?_
          refine lv_aload_n hx hb dX5_movePressure_52 rfl (lv_at hl 0 rfl) ?_
          refine get_wh_3 C hK X 0 rfl fl_X5_45 dX5_movePressure_53 ?_
          refine lv_iconst (v := 2) hx hb dX5_movePressure_56 (by decide) ?_
          refine lv_irem hx hb dX5_movePressure_57 (by decide) ?_
          have J75_4 : ∀ (x3 : Int32) (ls : Array Slot) (H : Heap) (locs : List Loc), x3 = (v_X5_movePressure_3 w) → lv_has ls 2 [(0, .ref h), (1, .int wd)] → Wd D A s.heap [(h, whE w am)] H locs → W p l e (rmD 1) s m args below meth c H locs 0 0 Q (F0 m 75 ls [.int x3, .ref h]) := by
            intro x3 ls H locs ex3 hl X
            subst ex3
            refine lv_iload_n hx hb dX5_movePressure_75 rfl (lv_at hl 1 rfl) ?_
            refine s_mn C hl.1 wm_X5_78 (Nat.le_of_ble_eq_true rfl) (Nat.le_of_ble_eq_true rfl) ⟨Nat.zero_le _, Nat.zero_le _⟩ dX5_movePressure_76 ?_
            refine put_wh_1 C hK X 0 rfl pl_X5_39 dX5_movePressure_79 (fun H locs X => ?_)
            have X : Wd D A s.heap [(h, whE (upd w 1 (mn (v_X5_movePressure_3 w) wd)) am)] H locs := X
            refine lv_goto (tgt := 122) hx hb dX5_movePressure_82 (by decide) ?_
            have e_0_0 : (f_X5_movePressure_h w wd) = (upd w 1 (mn (v_X5_movePressure_3 w) wd)) := by first | (rw [f_X5_movePressure_h, if_neg c0_0, if_neg c1_1, if_neg c2_2, if_pos c3_3]; done) | (rw [f_X5_movePressure_h, if_neg c0_0, if_neg c1_1, if_neg c2_2, if_pos c3_3]; rfl) | (simp only [f_X5_movePressure_h, if_neg c0_0, if_neg c1_1, if_neg c2_2, if_pos c3_3]; done)
            exact hret _ _ _ _ _ dX5_movePressure_122 X (by rw [e_0_0])
          refine lv_if_eq (tgt := 71) hx hb dX5_movePressure_58 (by decide) (fun c4_4 => ?_) (fun c4_4 => ?_)
          · refine lv_aload_n hx hb dX5_movePressure_71 rfl (lv_at hl 0 rfl) ?_
            refine get_wh_1 C hK X 0 rfl fl_X5_39 dX5_movePressure_72 ?_
            exact J75_4 (w 1) _ _ _ (by first | (rw [v_X5_movePressure_3, if_pos c4_4]; done) | (rw [v_X5_movePressure_3, if_pos c4_4]; rfl) | (simp only [v_X5_movePressure_3, if_pos c4_4]; done)) (lv_sub hl [0, 1] rfl) X
          · refine lv_aload_n hx hb dX5_movePressure_61 rfl (lv_at hl 0 rfl) ?_
            refine get_wh_1 C hK X 0 rfl fl_X5_39 dX5_movePressure_62 ?_
            refine lv_bipush (v := 20) hx hb dX5_movePressure_65 (by decide) ?_
            refine lv_iadd hx hb dX5_movePressure_67 ?_
            refine lv_goto (tgt := 75) hx hb dX5_movePressure_68 (by decide) ?_
            exact J75_4 ((w 1) + 20) _ _ _ (by first | (rw [v_X5_movePressure_3, if_neg c4_4]; done) | (rw [v_X5_movePressure_3, if_neg c4_4]; rfl) | (simp only [v_X5_movePressure_3, if_neg c4_4]; done)) (lv_sub hl [0, 1] rfl) X
        · refine lv_tableOut (tgt := 85) hx hb dX5_movePressure_4 (sw_out4 c0_0 c1_1 c2_2 c3_3) (by decide) ?_
          refine lv_aload_n hx hb dX5_movePressure_85 rfl (lv_at hl 0 rfl) ?_
          refine lv_aload_n hx hb dX5_movePressure_86 rfl (lv_at hl 0 rfl) ?_
          refine get_wh_1 C hK X 0 rfl fl_X5_39 dX5_movePressure_87 ?_
          refine lv_iload_n hx hb dX5_movePressure_90 rfl (lv_at hl 1 rfl) ?_
          have J119_6 : ∀ (x5 : Int32) (ls : Array Slot) (H : Heap) (locs : List Loc), x5 = (v_X5_movePressure_5 w wd) → lv_has ls 2 [(0, .ref h), (1, .int wd)] → Wd D A s.heap [(h, whE w am)] H locs → W p l e (rmD 1) s m args below meth c H locs 0 0 Q (F0 m 119 ls [.int x5, .ref h]) := by
            intro x5 ls H locs ex5 hl X
            subst ex5
            refine put_wh_1 C hK X 0 rfl pl_X5_39 dX5_movePressure_119 (fun H locs X => ?_)
            have X : Wd D A s.heap [(h, whE (upd w 1 (v_X5_movePressure_5 w wd)) am)] H locs := X
            have e_0_0 : (f_X5_movePressure_h w wd) = (upd w 1 (v_X5_movePressure_5 w wd)) := by first | (rw [f_X5_movePressure_h, if_neg c0_0, if_neg c1_1, if_neg c2_2, if_neg c3_3]; done) | (rw [f_X5_movePressure_h, if_neg c0_0, if_neg c1_1, if_neg c2_2, if_neg c3_3]; rfl) | (simp only [f_X5_movePressure_h, if_neg c0_0, if_neg c1_1, if_neg c2_2, if_neg c3_3]; done)
            exact hret _ _ _ _ _ dX5_movePressure_122 X (by rw [e_0_0])
          refine lv_icmp_ge (tgt := 108) hx hb dX5_movePressure_91 (by decide) (fun c4_4 => ?_) (fun c4_4 => ?_)
          · refine lv_aload_n hx hb dX5_movePressure_108 rfl (lv_at hl 0 rfl) ?_
            refine get_wh_1 C hK X 0 rfl fl_X5_39 dX5_movePressure_109 ?_
            refine lv_bipush (v := 80) hx hb dX5_movePressure_112 (by decide) ?_
            refine lv_isub hx hb dX5_movePressure_114 ?_
            refine lv_iload_n hx hb dX5_movePressure_115 rfl (lv_at hl 1 rfl) ?_
            refine s_mx C hl.1 wm_X5_75 (Nat.le_of_ble_eq_true rfl) (Nat.le_of_ble_eq_true rfl) ⟨Nat.zero_le _, Nat.zero_le _⟩ dX5_movePressure_116 ?_
            exact J119_6 (mx ((w 1) - 80) wd) _ _ _ (by first | (rw [v_X5_movePressure_5, if_pos c4_4]; done) | (rw [v_X5_movePressure_5, if_pos c4_4]; rfl) | (simp only [v_X5_movePressure_5, if_pos c4_4]; done)) (lv_sub hl [0, 1] rfl) X
          · refine lv_aload_n hx hb dX5_movePressure_94 rfl (lv_at hl 0 rfl) ?_
            refine get_wh_1 C hK X 0 rfl fl_X5_39 dX5_movePressure_95 ?_
            refine lv_bipush (v := 40) hx hb dX5_movePressure_98 (by decide) ?_
            refine lv_iadd hx hb dX5_movePressure_100 ?_
            refine lv_iload_n hx hb dX5_movePressure_101 rfl (lv_at hl 1 rfl) ?_
            refine s_mn C hl.1 wm_X5_78 (Nat.le_of_ble_eq_true rfl) (Nat.le_of_ble_eq_true rfl) ⟨Nat.zero_le _, Nat.zero_le _⟩ dX5_movePressure_102 ?_
            refine lv_goto (tgt := 119) hx hb dX5_movePressure_105 (by decide) ?_
            exact J119_6 (mn ((w 1) + 40) wd) _ _ _ (by first | (rw [v_X5_movePressure_5, if_neg c4_4]; done) | (rw [v_X5_movePressure_5, if_neg c4_4]; rfl) | (simp only [v_X5_movePressure_5, if_neg c4_4]; done)) (lv_sub hl [0, 1] rfl) X
def f_X5_startAt_h (w : F1) (V : Int32) : F1 := (upd (upd (upd (upd (upd (upd (upd (upd w 0 V) 1 0) 2 0) 3 0) 8 0) 10 0) 11 0) 12 0)
theorem ok_X5_startAt_h (w : F1) (V : Int32) : kpOK (f_X5_startAt_h w V) := ⟨by show 0 ≤ (0 : Int32).toInt; decide, by show (0 : Int32).toInt ≤ 5; decide⟩
set_option maxHeartbeats 4000000 in
set_option maxRecDepth 100000 in
theorem c_X5_startAt (l : Launch) (D : va_G) (ty : Nat → ClassId) (h : Nat) (am : Nat) (w : F1) (V : Int32) : MC l D ty yX5_startAt cX5_startAt 2 none 0 [.ref h, .int V] [(h, whE w am)] none [(h, whE (f_X5_startAt_h w V) am)] := by
  refine mc_v (by decide +kernel) (Nat.le_of_ble_eq_true rfl) ?_
  intro p e s m args below meth c A Q ls C hK hA X hret hl
  have hx := C.1
  have hb := C.2.1
  have hl : lv_has ls 2 [(0, .ref h), (1, .int V)] := hl
  have X : Wd D A s.heap [(h, whE w am)] s.heap [] := X
  refine lv_aload_n hx hb dX5_startAt_0 rfl (lv_at hl 0 rfl) ?_
  refine lv_iload_n hx hb dX5_startAt_1 rfl (lv_at hl 1 rfl) ?_
  refine put_wh_0 C hK X 0 rfl pl_X5_36 dX5_startAt_2 (fun H locs X => ?_)
  have X : Wd D A s.heap [(h, whE (upd w 0 V) am)] H locs := X
  refine lv_aload_n hx hb dX5_startAt_5 rfl (lv_at hl 0 rfl) ?_
  refine lv_iconst (v := 0) hx hb dX5_startAt_6 (by decide) ?_
  refine put_wh_1 C hK X 0 rfl pl_X5_39 dX5_startAt_7 (fun H locs X => ?_)
  have X : Wd D A s.heap [(h, whE (upd (upd w 0 V) 1 0) am)] H locs := X
  refine lv_aload_n hx hb dX5_startAt_10 rfl (lv_at hl 0 rfl) ?_
  refine lv_iconst (v := 0) hx hb dX5_startAt_11 (by decide) ?_
  refine put_wh_2 C hK X 0 rfl pl_X5_42 dX5_startAt_12 (fun H locs X => ?_)
  have X : Wd D A s.heap [(h, whE (upd (upd (upd w 0 V) 1 0) 2 0) am)] H locs := X
  refine lv_aload_n hx hb dX5_startAt_15 rfl (lv_at hl 0 rfl) ?_
  refine lv_iconst (v := 0) hx hb dX5_startAt_16 (by decide) ?_
  refine put_wh_3 C hK X 0 rfl pl_X5_45 dX5_startAt_17 (fun H locs X => ?_)
  have X : Wd D A s.heap [(h, whE (upd (upd (upd (upd w 0 V) 1 0) 2 0) 3 0) am)] H locs := X
  refine lv_aload_n hx hb dX5_startAt_20 rfl (lv_at hl 0 rfl) ?_
  refine lv_iconst (v := 0) hx hb dX5_startAt_21 (by decide) ?_
  refine put_wh_7 C hK X 0 rfl pl_X5_48 dX5_startAt_22 (fun H locs X => ?_)
  have X : Wd D A s.heap [(h, whE (upd (upd (upd (upd (upd w 0 V) 1 0) 2 0) 3 0) 8 0) am)] H locs := X
  refine lv_aload_n hx hb dX5_startAt_25 rfl (lv_at hl 0 rfl) ?_
  refine lv_iconst (v := 0) hx hb dX5_startAt_26 (by decide) ?_
  refine put_wh_11 C hK X 0 rfl pl_X5_51 dX5_startAt_27 (fun H locs X => ?_)
  have X : Wd D A s.heap [(h, whE (upd (upd (upd (upd (upd (upd w 0 V) 1 0) 2 0) 3 0) 8 0) 10 0) am)] H locs := X
  refine lv_aload_n hx hb dX5_startAt_30 rfl (lv_at hl 0 rfl) ?_
  refine lv_iconst (v := 0) hx hb dX5_startAt_31 (by decide) ?_
  refine put_wh_12 C hK X 0 rfl pl_X5_54 dX5_startAt_32 (fun H locs X => ?_)
  have X : Wd D A s.heap [(h, whE (upd (upd (upd (upd (upd (upd (upd w 0 V) 1 0) 2 0) 3 0) 8 0) 10 0) 11 0) am)] H locs := X
  refine lv_aload_n hx hb dX5_startAt_35 rfl (lv_at hl 0 rfl) ?_
  refine lv_iconst (v := 0) hx hb dX5_startAt_36 (by decide) ?_
  refine put_wh_13 C hK X 0 rfl pl_X5_57 dX5_startAt_37 (fun H locs X => ?_)
  have X : Wd D A s.heap [(h, whE (upd (upd (upd (upd (upd (upd (upd (upd w 0 V) 1 0) 2 0) 3 0) 8 0) 10 0) 11 0) 12 0) am)] H locs := X
  have e_0_0 : (f_X5_startAt_h w V) = (upd (upd (upd (upd (upd (upd (upd (upd w 0 V) 1 0) 2 0) 3 0) 8 0) 10 0) 11 0) 12 0) := by first | (rw [f_X5_startAt_h]; done) | (rw [f_X5_startAt_h]; rfl) | (simp only [f_X5_startAt_h]; done)
  exact hret _ _ _ _ _ dX5_startAt_40 X (by rw [e_0_0])
def f_X5_clear_h (w : F1) : F1 := (upd (upd (upd (upd (upd (f_X5_startAt_h w 0) 4 0) 5 0) 6 0) 7 0) 9 0)
theorem ok_X5_clear_h (w : F1) : kpOK (f_X5_clear_h w) := ⟨by show 0 ≤ (0 : Int32).toInt; decide, by show (0 : Int32).toInt ≤ 5; decide⟩
set_option maxHeartbeats 4000000 in
set_option maxRecDepth 100000 in
theorem c_X5_clear (l : Launch) (D : va_G) (ty : Nat → ClassId) (h : Nat) (am : Nat) (w : F1) : MC l D ty yX5_clear cX5_clear 1 none 1 [.ref h] [(h, whE w am)] none [(h, whE (f_X5_clear_h w) am)] := by
  refine mc_v (by decide +kernel) (Nat.le_of_ble_eq_true rfl) ?_
  intro p e s m args below meth c A Q ls C hK hA X hret hl
  have hx := C.1
  have hb := C.2.1
  have hl : lv_has ls 1 [(0, .ref h)] := hl
  have X : Wd D A s.heap [(h, whE w am)] s.heap [] := X
  refine lv_aload_n hx hb dX5_clear_0 rfl (lv_at hl 0 rfl) ?_
  refine lv_iconst (v := 0) hx hb dX5_clear_1 (by decide) ?_
  refine s_cVv (ws' := [(h, whE (f_X5_startAt_h w 0) am)]) C hK hA X (c_X5_startAt l D ty h am w 0) [0] (pk_c rfl pk_n) rfl (pk_c rfl pk_n) (em_t em_n) rfl ml_X5_startAt wm_X5_15 (q0 := 0) rfl rfl rfl ⟨Nat.le_of_ble_eq_true rfl, Nat.le_of_ble_eq_true rfl⟩ ⟨Nat.zero_le _, Nat.zero_le _⟩ hl.1 rfl (Nat.le_of_ble_eq_true rfl) dX5_clear_2 (fun H locs X => ?_)
  refine lv_aload_n hx hb dX5_clear_5 rfl (lv_at hl 0 rfl) ?_
  refine lv_iconst (v := 0) hx hb dX5_clear_6 (by decide) ?_
  refine put_wh_4 C hK X 0 rfl pl_X5_19 dX5_clear_7 (fun H locs X => ?_)
  have X : Wd D A s.heap [(h, whE (upd (f_X5_startAt_h w 0) 4 0) am)] H locs := X
  refine lv_aload_n hx hb dX5_clear_10 rfl (lv_at hl 0 rfl) ?_
  refine lv_iconst (v := 0) hx hb dX5_clear_11 (by decide) ?_
  refine put_wh_5 C hK X 0 rfl pl_X5_23 dX5_clear_12 (fun H locs X => ?_)
  have X : Wd D A s.heap [(h, whE (upd (upd (f_X5_startAt_h w 0) 4 0) 5 0) am)] H locs := X
  refine lv_aload_n hx hb dX5_clear_15 rfl (lv_at hl 0 rfl) ?_
  refine lv_iconst (v := 0) hx hb dX5_clear_16 (by decide) ?_
  refine put_wh_6 C hK X 0 rfl pl_X5_26 dX5_clear_17 (fun H locs X => ?_)
  have X : Wd D A s.heap [(h, whE (upd (upd (upd (f_X5_startAt_h w 0) 4 0) 5 0) 6 0) am)] H locs := X
  refine lv_aload_n hx hb dX5_clear_20 rfl (lv_at hl 0 rfl) ?_
  refine lv_iconst (v := 0) hx hb dX5_clear_21 (by decide) ?_
  refine put_wh_8 C hK X 0 rfl pl_X5_29 isB0 dX5_clear_22 (fun H locs X => ?_)
  have X : Wd D A s.heap [(h, whE (upd (upd (upd (upd (f_X5_startAt_h w 0) 4 0) 5 0) 6 0) 7 0) am)] H locs := X
  refine lv_aload_n hx hb dX5_clear_25 rfl (lv_at hl 0 rfl) ?_
  refine lv_iconst (v := 0) hx hb dX5_clear_26 (by decide) ?_
  refine put_wh_9 C hK X 0 rfl pl_X5_33 isB0 dX5_clear_27 (fun H locs X => ?_)
  have X : Wd D A s.heap [(h, whE (upd (upd (upd (upd (upd (f_X5_startAt_h w 0) 4 0) 5 0) 6 0) 7 0) 9 0) am)] H locs := X
  have e_0_0 : (f_X5_clear_h w) = (upd (upd (upd (upd (upd (f_X5_startAt_h w 0) 4 0) 5 0) 6 0) 7 0) 9 0) := by first | (rw [f_X5_clear_h]; done) | (rw [f_X5_clear_h]; rfl) | (simp only [f_X5_clear_h]; done)
  exact hret _ _ _ _ _ dX5_clear_30 X (by rw [e_0_0])
def f_X5_copyFrom_h (w : F1) (w2 : F1) : F1 := (upd (upd (upd (upd (upd (upd (upd (upd (upd (upd (upd (upd (upd w 0 (w2 0)) 1 (w2 1)) 2 (w2 2)) 3 (w2 3)) 4 (w2 4)) 5 (w2 5)) 6 (w2 6)) 8 (w2 8)) 7 (w2 7)) 9 (w2 9)) 10 (w2 10)) 11 (w2 11)) 12 (w2 12))
def f_X5_copyFrom_am (ms : F1) (ms2 : F1) : F1 := (va_cpy ms2 ms 0 0 5)
theorem ok_X5_copyFrom_h (w : F1) (w2 : F1) (tk_h2 : kpOK w2) : kpOK (f_X5_copyFrom_h w w2) := tk_h2
set_option maxHeartbeats 4000000 in
set_option maxRecDepth 100000 in
theorem c_X5_copyFrom (l : Launch) (D : va_G) (ty : Nat → ClassId) (h : Nat) (am : Nat) (w : F1) (ms : F1) (h2 : Nat) (am2 : Nat) (w2 : F1) (ms2 : F1) (hb7 : isB (w2 7)) (hb9 : isB (w2 9)) : MC l D ty yX5_copyFrom cX5_copyFrom 2 none 1 [.ref h, .ref h2] [(h, whE w am), (am, arE ty 5 ms), (h2, whE w2 am2), (am2, arE ty 5 ms2)] none [(h, whE (f_X5_copyFrom_h w w2) am), (am, arE ty 5 (f_X5_copyFrom_am ms ms2)), (h2, whE w2 am2), (am2, arE ty 5 ms2)] := by
  refine mc_v (by decide +kernel) (Nat.le_of_ble_eq_true rfl) ?_
  intro p e s m args below meth c A Q ls C hK hA X hret hl
  have hx := C.1
  have hb := C.2.1
  have hl : lv_has ls 2 [(0, .ref h), (1, .ref h2)] := hl
  have X : Wd D A s.heap [(h, whE w am), (am, arE ty 5 ms), (h2, whE w2 am2), (am2, arE ty 5 ms2)] s.heap [] := X
  refine lv_aload_n hx hb dX5_copyFrom_0 rfl (lv_at hl 0 rfl) ?_
  refine lv_aload_n hx hb dX5_copyFrom_1 rfl (lv_at hl 1 rfl) ?_
  refine get_wh_0 C hK X 2 rfl fl_X5_36 dX5_copyFrom_2 ?_
  refine put_wh_0 C hK X 0 rfl pl_X5_36 dX5_copyFrom_5 (fun H locs X => ?_)
  have X : Wd D A s.heap [(h, whE (upd w 0 (w2 0)) am), (am, arE ty 5 ms), (h2, whE w2 am2), (am2, arE ty 5 ms2)] H locs := X
  refine lv_aload_n hx hb dX5_copyFrom_8 rfl (lv_at hl 0 rfl) ?_
  refine lv_aload_n hx hb dX5_copyFrom_9 rfl (lv_at hl 1 rfl) ?_
  refine get_wh_1 C hK X 2 rfl fl_X5_39 dX5_copyFrom_10 ?_
  refine put_wh_1 C hK X 0 rfl pl_X5_39 dX5_copyFrom_13 (fun H locs X => ?_)
  have X : Wd D A s.heap [(h, whE (upd (upd w 0 (w2 0)) 1 (w2 1)) am), (am, arE ty 5 ms), (h2, whE w2 am2), (am2, arE ty 5 ms2)] H locs := X
  refine lv_aload_n hx hb dX5_copyFrom_16 rfl (lv_at hl 0 rfl) ?_
  refine lv_aload_n hx hb dX5_copyFrom_17 rfl (lv_at hl 1 rfl) ?_
  refine get_wh_2 C hK X 2 rfl fl_X5_42 dX5_copyFrom_18 ?_
  refine put_wh_2 C hK X 0 rfl pl_X5_42 dX5_copyFrom_21 (fun H locs X => ?_)
  have X : Wd D A s.heap [(h, whE (upd (upd (upd w 0 (w2 0)) 1 (w2 1)) 2 (w2 2)) am), (am, arE ty 5 ms), (h2, whE w2 am2), (am2, arE ty 5 ms2)] H locs := X
  refine lv_aload_n hx hb dX5_copyFrom_24 rfl (lv_at hl 0 rfl) ?_
  refine lv_aload_n hx hb dX5_copyFrom_25 rfl (lv_at hl 1 rfl) ?_
  refine get_wh_3 C hK X 2 rfl fl_X5_45 dX5_copyFrom_26 ?_
  refine put_wh_3 C hK X 0 rfl pl_X5_45 dX5_copyFrom_29 (fun H locs X => ?_)
  have X : Wd D A s.heap [(h, whE (upd (upd (upd (upd w 0 (w2 0)) 1 (w2 1)) 2 (w2 2)) 3 (w2 3)) am), (am, arE ty 5 ms), (h2, whE w2 am2), (am2, arE ty 5 ms2)] H locs := X
  refine lv_aload_n hx hb dX5_copyFrom_32 rfl (lv_at hl 0 rfl) ?_
  refine lv_aload_n hx hb dX5_copyFrom_33 rfl (lv_at hl 1 rfl) ?_
  refine get_wh_4 C hK X 2 rfl fl_X5_19 dX5_copyFrom_34 ?_
  refine put_wh_4 C hK X 0 rfl pl_X5_19 dX5_copyFrom_37 (fun H locs X => ?_)
  have X : Wd D A s.heap [(h, whE (upd (upd (upd (upd (upd w 0 (w2 0)) 1 (w2 1)) 2 (w2 2)) 3 (w2 3)) 4 (w2 4)) am), (am, arE ty 5 ms), (h2, whE w2 am2), (am2, arE ty 5 ms2)] H locs := X
  refine lv_aload_n hx hb dX5_copyFrom_40 rfl (lv_at hl 0 rfl) ?_
  refine lv_aload_n hx hb dX5_copyFrom_41 rfl (lv_at hl 1 rfl) ?_
  refine get_wh_5 C hK X 2 rfl fl_X5_23 dX5_copyFrom_42 ?_
  refine put_wh_5 C hK X 0 rfl pl_X5_23 dX5_copyFrom_45 (fun H locs X => ?_)
  have X : Wd D A s.heap [(h, whE (upd (upd (upd (upd (upd (upd w 0 (w2 0)) 1 (w2 1)) 2 (w2 2)) 3 (w2 3)) 4 (w2 4)) 5 (w2 5)) am), (am, arE ty 5 ms), (h2, whE w2 am2), (am2, arE ty 5 ms2)] H locs := X
  refine lv_aload_n hx hb dX5_copyFrom_48 rfl (lv_at hl 0 rfl) ?_
  refine lv_aload_n hx hb dX5_copyFrom_49 rfl (lv_at hl 1 rfl) ?_
  refine get_wh_6 C hK X 2 rfl fl_X5_26 dX5_copyFrom_50 ?_
  refine put_wh_6 C hK X 0 rfl pl_X5_26 dX5_copyFrom_53 (fun H locs X => ?_)
  have X : Wd D A s.heap [(h, whE (upd (upd (upd (upd (upd (upd (upd w 0 (w2 0)) 1 (w2 1)) 2 (w2 2)) 3 (w2 3)) 4 (w2 4)) 5 (w2 5)) 6 (w2 6)) am), (am, arE ty 5 ms), (h2, whE w2 am2), (am2, arE ty 5 ms2)] H locs := X
  refine lv_aload_n hx hb dX5_copyFrom_56 rfl (lv_at hl 0 rfl) ?_
  refine lv_aload_n hx hb dX5_copyFrom_57 rfl (lv_at hl 1 rfl) ?_
  refine get_wh_7 C hK X 2 rfl fl_X5_48 dX5_copyFrom_58 ?_
  refine put_wh_7 C hK X 0 rfl pl_X5_48 dX5_copyFrom_61 (fun H locs X => ?_)
  have X : Wd D A s.heap [(h, whE (upd (upd (upd (upd (upd (upd (upd (upd w 0 (w2 0)) 1 (w2 1)) 2 (w2 2)) 3 (w2 3)) 4 (w2 4)) 5 (w2 5)) 6 (w2 6)) 8 (w2 8)) am), (am, arE ty 5 ms), (h2, whE w2 am2), (am2, arE ty 5 ms2)] H locs := X
  refine lv_aload_n hx hb dX5_copyFrom_64 rfl (lv_at hl 0 rfl) ?_
  refine lv_aload_n hx hb dX5_copyFrom_65 rfl (lv_at hl 1 rfl) ?_
  refine get_wh_8 C hK X 2 rfl fl_X5_29 dX5_copyFrom_66 ?_
  refine put_wh_8 C hK X 0 rfl pl_X5_29 hb7 dX5_copyFrom_69 (fun H locs X => ?_)
  have X : Wd D A s.heap [(h, whE (upd (upd (upd (upd (upd (upd (upd (upd (upd w 0 (w2 0)) 1 (w2 1)) 2 (w2 2)) 3 (w2 3)) 4 (w2 4)) 5 (w2 5)) 6 (w2 6)) 8 (w2 8)) 7 (w2 7)) am), (am, arE ty 5 ms), (h2, whE w2 am2), (am2, arE ty 5 ms2)] H locs := X
  refine lv_aload_n hx hb dX5_copyFrom_72 rfl (lv_at hl 0 rfl) ?_
  refine lv_aload_n hx hb dX5_copyFrom_73 rfl (lv_at hl 1 rfl) ?_
  refine get_wh_9 C hK X 2 rfl fl_X5_33 dX5_copyFrom_74 ?_
  refine put_wh_9 C hK X 0 rfl pl_X5_33 hb9 dX5_copyFrom_77 (fun H locs X => ?_)
  have X : Wd D A s.heap [(h, whE (upd (upd (upd (upd (upd (upd (upd (upd (upd (upd w 0 (w2 0)) 1 (w2 1)) 2 (w2 2)) 3 (w2 3)) 4 (w2 4)) 5 (w2 5)) 6 (w2 6)) 8 (w2 8)) 7 (w2 7)) 9 (w2 9)) am), (am, arE ty 5 ms), (h2, whE w2 am2), (am2, arE ty 5 ms2)] H locs := X
  refine lv_aload_n hx hb dX5_copyFrom_80 rfl (lv_at hl 1 rfl) ?_
  refine get_wh_10 C hK X 2 rfl fl_X5_11 dX5_copyFrom_81 ?_
  refine lv_iconst (v := 0) hx hb dX5_copyFrom_84 (by decide) ?_
  refine lv_aload_n hx hb dX5_copyFrom_85 rfl (lv_at hl 0 rfl) ?_
  refine get_wh_10 C hK X 0 rfl fl_X5_11 dX5_copyFrom_86 ?_
  refine lv_iconst (v := 0) hx hb dX5_copyFrom_89 (by decide) ?_
  refine lv_iconst (v := 5) hx hb dX5_copyFrom_90 (by decide) ?_
  refine s_copyN C hK X hl.1 wm_X5_60 3 1 0 0 5 rfl rfl rfl rfl rfl (by decide) (by decide) (by decide) (by decide) (Nat.le_of_ble_eq_true rfl) (Nat.le_of_ble_eq_true rfl) dX5_copyFrom_91 (fun H locs X => ?_)
  have X : Wd D A s.heap [(h, whE (upd (upd (upd (upd (upd (upd (upd (upd (upd (upd w 0 (w2 0)) 1 (w2 1)) 2 (w2 2)) 3 (w2 3)) 4 (w2 4)) 5 (w2 5)) 6 (w2 6)) 8 (w2 8)) 7 (w2 7)) 9 (w2 9)) am), (am, arE ty 5 (va_cpy ms2 ms 0 0 5)), (h2, whE w2 am2), (am2, arE ty 5 ms2)] H locs := X
  refine lv_aload_n hx hb dX5_copyFrom_94 rfl (lv_at hl 0 rfl) ?_
  refine lv_aload_n hx hb dX5_copyFrom_95 rfl (lv_at hl 1 rfl) ?_
  refine get_wh_11 C hK X 2 rfl fl_X5_51 dX5_copyFrom_96 ?_
  refine put_wh_11 C hK X 0 rfl pl_X5_51 dX5_copyFrom_99 (fun H locs X => ?_)
  have X : Wd D A s.heap [(h, whE (upd (upd (upd (upd (upd (upd (upd (upd (upd (upd (upd w 0 (w2 0)) 1 (w2 1)) 2 (w2 2)) 3 (w2 3)) 4 (w2 4)) 5 (w2 5)) 6 (w2 6)) 8 (w2 8)) 7 (w2 7)) 9 (w2 9)) 10 (w2 10)) am), (am, arE ty 5 (va_cpy ms2 ms 0 0 5)), (h2, whE w2 am2), (am2, arE ty 5 ms2)] H locs := X
  refine lv_aload_n hx hb dX5_copyFrom_102 rfl (lv_at hl 0 rfl) ?_
  refine lv_aload_n hx hb dX5_copyFrom_103 rfl (lv_at hl 1 rfl) ?_
  refine get_wh_12 C hK X 2 rfl fl_X5_54 dX5_copyFrom_104 ?_
  refine put_wh_12 C hK X 0 rfl pl_X5_54 dX5_copyFrom_107 (fun H locs X => ?_)
  have X : Wd D A s.heap [(h, whE (upd (upd (upd (upd (upd (upd (upd (upd (upd (upd (upd (upd w 0 (w2 0)) 1 (w2 1)) 2 (w2 2)) 3 (w2 3)) 4 (w2 4)) 5 (w2 5)) 6 (w2 6)) 8 (w2 8)) 7 (w2 7)) 9 (w2 9)) 10 (w2 10)) 11 (w2 11)) am), (am, arE ty 5 (va_cpy ms2 ms 0 0 5)), (h2, whE w2 am2), (am2, arE ty 5 ms2)] H locs := X
  refine lv_aload_n hx hb dX5_copyFrom_110 rfl (lv_at hl 0 rfl) ?_
  refine lv_aload_n hx hb dX5_copyFrom_111 rfl (lv_at hl 1 rfl) ?_
  refine get_wh_13 C hK X 2 rfl fl_X5_57 dX5_copyFrom_112 ?_
  refine put_wh_13 C hK X 0 rfl pl_X5_57 dX5_copyFrom_115 (fun H locs X => ?_)
  have X : Wd D A s.heap [(h, whE (upd (upd (upd (upd (upd (upd (upd (upd (upd (upd (upd (upd (upd w 0 (w2 0)) 1 (w2 1)) 2 (w2 2)) 3 (w2 3)) 4 (w2 4)) 5 (w2 5)) 6 (w2 6)) 8 (w2 8)) 7 (w2 7)) 9 (w2 9)) 10 (w2 10)) 11 (w2 11)) 12 (w2 12)) am), (am, arE ty 5 (va_cpy ms2 ms 0 0 5)), (h2, whE w2 am2), (am2, arE ty 5 ms2)] H locs := X
  have e_0_0 : (f_X5_copyFrom_h w w2) = (upd (upd (upd (upd (upd (upd (upd (upd (upd (upd (upd (upd (upd w 0 (w2 0)) 1 (w2 1)) 2 (w2 2)) 3 (w2 3)) 4 (w2 4)) 5 (w2 5)) 6 (w2 6)) 8 (w2 8)) 7 (w2 7)) 9 (w2 9)) 10 (w2 10)) 11 (w2 11)) 12 (w2 12)) := by first | (rw [f_X5_copyFrom_h]; done) | (rw [f_X5_copyFrom_h]; rfl) | (simp only [f_X5_copyFrom_h]; done)
  have e_1_1 : (f_X5_copyFrom_am ms ms2) = (va_cpy ms2 ms 0 0 5) := by first | (rw [f_X5_copyFrom_am]; done) | (rw [f_X5_copyFrom_am]; rfl) | (simp only [f_X5_copyFrom_am]; done)
  exact hret _ _ _ _ _ dX5_copyFrom_118 X (by rw [e_0_0, e_1_1])
