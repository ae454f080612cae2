/-- the reference's own numbers: segments 74, planned 111, events 132, kept values 20 36 52 68 -/
def MOK (n : F1) : Prop := (1 ≤ (n 74).toInt ∧ (n 74).toInt ≤ 12) ∧ (0 ≤ (n 111).toInt ∧ (n 111).toInt ≤ 10) ∧ (0 ≤ (n 132).toInt ∧ (n 132).toInt ≤ 40) ∧ ∀ j : Nat, j < 4 → 0 ≤ (n (10 + 16 * j + 10)).toInt ∧ (n (10 + 16 * j + 10)).toInt ≤ 5
theorem MOK_of {n m : F1} (h : MOK n) (e1 : m 74 = n 74) (e2 : m 111 = n 111) (e3 : m 132 = n 132) (e4 : ∀ j : Nat, j < 4 → m (10 + 16 * j + 10) = n (10 + 16 * j + 10)) : MOK m := by
  refine ⟨by rw [e1]; exact h.1, by rw [e2]; exact h.2.1, by rw [e3]; exact h.2.2.1, fun j hj => by rw [e4 j hj]; exact h.2.2.2 j hj⟩
theorem MOK_i {n : F1} {i : Nat} {v : Int32} (hi : i < 10) (h : MOK n) : MOK (upd n i v) :=
  MOK_of h (pk_un (by omega)) (pk_un (by omega)) (pk_un (by omega)) (fun j hj => pk_un (by omega))
theorem MOK_w {n : F1} {j k : Nat} {v : Int32} (hj : j < 4) (hk : k < 16 ∧ k ≠ 10) (h : MOK n) : MOK (upd n (10 + 16 * j + k) v) :=
  MOK_of h (pk_un (by omega)) (pk_un (by omega)) (pk_un (by omega)) (fun i hi => pk_un (by omega))
theorem MOK_k0 {n : F1} {j : Nat} (hj : j < 4) (h : MOK n) : MOK (upd n (10 + 16 * j + 10) 0) := by
  refine ⟨by rw [pk_un (by omega)]; exact h.1, by rw [pk_un (by omega)]; exact h.2.1, by rw [pk_un (by omega)]; exact h.2.2.1, fun i hi => ?_⟩
  by_cases e : i = j
  · subst e; rw [pk_us]; decide
  · rw [pk_un (by omega)]; exact h.2.2.2 i hi
/-- a number that isn't negative, as a natural one -/
theorem nI_self {x : Int32} (h : 0 ≤ x.toInt) : x = nI x.toNatClampNeg := by
  apply Int32.toInt_inj.mp
  have e : (x.toNatClampNeg : Int) = x.toInt := by
    show ((x.toInt.toNat : Nat) : Int) = x.toInt
    omega
  rw [nI_toInt (by have := rng_i x; omega), e]
theorem tN_toInt {x : Int32} (h : 0 ≤ x.toInt) : (x.toNatClampNeg : Int) = x.toInt := by
  show ((x.toInt.toNat : Nat) : Int) = x.toInt
  omega
def sN (n : F1) : Nat := (n 74).toNatClampNeg
def pN (n : F1) : Nat := (n 111).toNatClampNeg
def eN (n : F1) : Nat := (n 132).toNatClampNeg
def kN (j : Nat) (n : F1) : Nat := (n (10 + 16 * j + 10)).toNatClampNeg
theorem sN_eq {n : F1} (h : MOK n) : n 74 = nI (sN n) ∧ 1 ≤ sN n ∧ sN n ≤ 12 := by
  have := tN_toInt (x := n 74) (by have := h.1; omega)
  exact ⟨nI_self (by have := h.1; omega), by unfold sN; have := h.1; omega, by unfold sN; have := h.1; omega⟩
theorem pN_eq {n : F1} (h : MOK n) : n 111 = nI (pN n) ∧ pN n ≤ 10 := by
  have := tN_toInt (x := n 111) (by have := h.2.1; omega)
  exact ⟨nI_self (by have := h.2.1; omega), by unfold pN; have := h.2.1; omega⟩
theorem eN_eq {n : F1} (h : MOK n) : n 132 = nI (eN n) ∧ eN n ≤ 40 := by
  have := tN_toInt (x := n 132) (by have := h.2.2.1; omega)
  exact ⟨nI_self (by have := h.2.2.1; omega), by unfold eN; have := h.2.2.1; omega⟩
theorem kN_eq {n : F1} {j : Nat} (h : MOK n) (hj : j < 4) : n (10 + 16 * j + 10) = nI (kN j n) ∧ kN j n ≤ 5 := by
  have hh := h.2.2.2 j hj
  have := tN_toInt (x := n (10 + 16 * j + 10)) (by omega)
  exact ⟨nI_self (by omega), by unfold kN; omega⟩
theorem atN (j k : Nat) : 10 + 16 * nI j + nI k = nI (10 + 16 * j + k) := by
  rw [show (10 : Int32) = nI 10 from rfl, show (16 : Int32) = nI 16 from rfl, pk_mul, nI_add, nI_add]
theorem cpy_step {f g : F1} {sp dp i : Nat} : upd (va_cpy f g sp dp i) (dp + i) (f (sp + i)) = va_cpy f g sp dp (i + 1) := by
  funext q
  unfold upd va_cpy
  by_cases h : q = dp + i
  · rw [if_pos h, if_pos (by omega)]; congr 1; omega
  · rw [if_neg h]
    by_cases h2 : dp ≤ q ∧ q < dp + i
    · rw [if_pos h2, if_pos (by omega)]
    · rw [if_neg h2, if_neg (by omega)]
theorem cpy_0 {f g : F1} {sp dp : Nat} : va_cpy f g sp dp 0 = g := by
  funext q; unfold va_cpy; rw [if_neg (by omega)]
theorem cpy_at {n : F1} {sp dp i : Nat} (h : dp ≤ sp) : va_cpy n n sp dp i (sp + i) = n (sp + i) := by
  unfold va_cpy; rw [if_neg (by omega)]
set_option maxHeartbeats 4000000 in
set_option maxRecDepth 100000 in
theorem c_X7_thrown (l : Launch) (D : va_G) (ty : Nat → ClassId) (o : Nat) (a : Nat) (b : Nat) (c_ : Nat) (g : F1) (hs : Int64) : MC l D ty yX7_thrown cX7_thrown 1 (some .int) 0 [.ref o] [(o, moE g hs a b c_)] (some (.int (g 1))) [(o, moE g hs a b c_)] := by
  refine mc_i (by decide +kernel) (Nat.le_of_ble_eq_true rfl) ?_
  intro p e s m args below meth c A Q ls C hK hA X hret hl
  have hx := C.1
  have hb := C.2.1
  have hl : lv_has ls 1 [(0, .ref o)] := hl
  have X : Wd D A s.heap [(o, moE g hs a b c_)] s.heap [] := X
  refine lv_aload_n hx hb dX7_thrown_0 rfl (lv_at hl 0 rfl) ?_
  refine get_mo_4 C hK X 0 rfl fl_X7_22 dX7_thrown_1 ?_
  exact hret _ _ _ _ _ _ dX7_thrown_4 X rfl rfl
def f_X7_refused (wh_ : Int32) : Int32 := (if wh_ ≤ 0 then 0 else 1)
def f_X7_refused_o (g : F1) (wh_ : Int32) : F1 := (upd g 1 wh_)
set_option maxHeartbeats 4000000 in
set_option maxRecDepth 100000 in
theorem c_X7_refused (l : Launch) (D : va_G) (ty : Nat → ClassId) (o : Nat) (a : Nat) (b : Nat) (c_ : Nat) (g : F1) (hs : Int64) (wh_ : Int32) : MC l D ty yX7_refused cX7_refused 2 (some .boolean) 0 [.ref o, .int wh_] [(o, moE g hs a b c_)] (some (.int (f_X7_refused wh_))) [(o, moE (f_X7_refused_o g wh_) hs a b c_)] := by
  refine mc_z (by decide +kernel) (Nat.le_of_ble_eq_true rfl) (and_b (by unfold f_X7_refused; (repeat' split) <;> first | exact isB0 | exact isB1)) ?_
  intro p e s m args below meth c A Q ls C hK hA X hret hl
  have hx := C.1
  have hb := C.2.1
  have hl : lv_has ls 2 [(0, .ref o), (1, .int wh_)] := hl
  have X : Wd D A s.heap [(o, moE g hs a b c_)] s.heap [] := X
  refine lv_aload_n hx hb dX7_refused_0 rfl (lv_at hl 0 rfl) ?_
  refine lv_iload_n hx hb dX7_refused_1 rfl (lv_at hl 1 rfl) ?_
  refine put_mo_4 C hK X 0 rfl pl_X7_22 dX7_refused_2 (fun H locs X => ?_)
  have X : Wd D A s.heap [(o, moE (upd g 1 wh_) hs a b c_)] H locs := X
  refine lv_iload_n hx hb dX7_refused_5 rfl (lv_at hl 1 rfl) ?_
  refine lv_if_le (tgt := 13) hx hb dX7_refused_6 (by decide) (fun c0_0 => ?_) (fun c0_0 => ?_)
  · refine lv_iconst (v := 0) hx hb dX7_refused_13 (by decide) ?_
    have e_0_0 : (f_X7_refused_o g wh_) = (upd g 1 wh_) := by first | (rw [f_X7_refused_o]; done) | (rw [f_X7_refused_o]; rfl) | (simp only [f_X7_refused_o]; done)
    exact hret _ _ _ _ _ _ dX7_refused_14 X (by rw [e_0_0]) (by first | (rw [f_X7_refused, if_pos c0_0]; done) | (rw [f_X7_refused, if_pos c0_0]; rfl) | (simp only [f_X7_refused, if_pos c0_0]; done))
  · refine lv_iconst (v := 1) hx hb dX7_refused_9 (by decide) ?_
    refine lv_goto (tgt := 14) hx hb dX7_refused_10 (by decide) ?_
    have e_0_0 : (f_X7_refused_o g wh_) = (upd g 1 wh_) := by first | (rw [f_X7_refused_o]; done) | (rw [f_X7_refused_o]; rfl) | (simp only [f_X7_refused_o]; done)
    exact hret _ _ _ _ _ _ dX7_refused_14 X (by rw [e_0_0]) (by first | (rw [f_X7_refused, if_neg c0_0]; done) | (rw [f_X7_refused, if_neg c0_0]; rfl) | (simp only [f_X7_refused, if_neg c0_0]; done))
def f_X7_within (v : Int32) (lo : Int32) (hi : Int32) : Int32 := (if v < lo then 0 else (if hi < v then 0 else 1))
theorem isB_m7within (v lo hi : Int32) : isB (f_X7_within v lo hi) := by unfold f_X7_within; (repeat' split) <;> first | exact isB0 | exact isB1
set_option maxHeartbeats 4000000 in
set_option maxRecDepth 100000 in
theorem c_X7_within (l : Launch) (D : va_G) (ty : Nat → ClassId) (v : Int32) (lo : Int32) (hi : Int32) : MC l D ty yX7_within cX7_within 3 (some .boolean) 0 [.int v, .int lo, .int hi] [] (some (.int (f_X7_within v lo hi))) [] := by
  refine mc_z (by decide +kernel) (Nat.le_of_ble_eq_true rfl) (and_b (by unfold f_X7_within; (repeat' split) <;> first | exact isB0 | exact isB1)) ?_
  intro p e s m args below meth c A Q ls C hK hA X hret hl
  have hx := C.1
  have hb := C.2.1
  have hl : lv_has ls 3 [(0, .int v), (1, .int lo), (2, .int hi)] := hl
  have X : Wd D A s.heap [] s.heap [] := X
  refine lv_iload_n hx hb dX7_within_0 rfl (lv_at hl 0 rfl) ?_
  refine lv_iload_n hx hb dX7_within_1 rfl (lv_at hl 1 rfl) ?_
  refine lv_icmp_lt (tgt := 14) hx hb dX7_within_2 (by decide) (fun c0_0 => ?_) (fun c0_0 => ?_)
  · refine lv_iconst (v := 0) hx hb dX7_within_14 (by decide) ?_
    exact hret _ _ _ _ _ _ dX7_within_15 X rfl (by first | (rw [f_X7_within, if_pos c0_0]; done) | (rw [f_X7_within, if_pos c0_0]; rfl) | (simp only [f_X7_within, if_pos c0_0]; done))
  · refine lv_iload_n hx hb dX7_within_5 rfl (lv_at hl 0 rfl) ?_
    refine lv_iload_n hx hb dX7_within_6 rfl (lv_at hl 2 rfl) ?_
    refine lv_icmp_gt (tgt := 14) hx hb dX7_within_7 (by decide) (fun c1_1 => ?_) (fun c1_1 => ?_)
    · refine lv_iconst (v := 0) hx hb dX7_within_14 (by decide) ?_
      exact hret _ _ _ _ _ _ dX7_within_15 X rfl (by first | (rw [f_X7_within, if_neg c0_0, if_pos c1_1]; done) | (rw [f_X7_within, if_neg c0_0, if_pos c1_1]; rfl) | (simp only [f_X7_within, if_neg c0_0, if_pos c1_1]; done))
    · refine lv_iconst (v := 1) hx hb dX7_within_10 (by decide) ?_
      refine lv_goto (tgt := 15) hx hb dX7_within_11 (by decide) ?_
      exact hret _ _ _ _ _ _ dX7_within_15 X rfl (by first | (rw [f_X7_within, if_neg c0_0, if_neg c1_1]; done) | (rw [f_X7_within, if_neg c0_0, if_neg c1_1]; rfl) | (simp only [f_X7_within, if_neg c0_0, if_neg c1_1]; done))
def f_X7_lesser (x : Int32) (y : Int32) : Int32 := (if y ≤ x then y else x)
set_option maxHeartbeats 4000000 in
set_option maxRecDepth 100000 in
theorem c_X7_lesser (l : Launch) (D : va_G) (ty : Nat → ClassId) (x : Int32) (y : Int32) : MC l D ty yX7_lesser cX7_lesser 2 (some .int) 0 [.int x, .int y] [] (some (.int (f_X7_lesser x y))) [] := by
  refine mc_i (by decide +kernel) (Nat.le_of_ble_eq_true rfl) ?_
  intro p e s m args below meth c A Q ls C hK hA X hret hl
  have hx := C.1
  have hb := C.2.1
  have hl : lv_has ls 2 [(0, .int x), (1, .int y)] := hl
  have X : Wd D A s.heap [] s.heap [] := X
  refine lv_iload_n hx hb dX7_lesser_0 rfl (lv_at hl 0 rfl) ?_
  refine lv_iload_n hx hb dX7_lesser_1 rfl (lv_at hl 1 rfl) ?_
  refine lv_icmp_ge (tgt := 9) hx hb dX7_lesser_2 (by decide) (fun c0_0 => ?_) (fun c0_0 => ?_)
  · refine lv_iload_n hx hb dX7_lesser_9 rfl (lv_at hl 1 rfl) ?_
    exact hret _ _ _ _ _ _ dX7_lesser_10 X rfl (by first | (rw [f_X7_lesser, if_pos c0_0]; done) | (rw [f_X7_lesser, if_pos c0_0]; rfl) | (simp only [f_X7_lesser, if_pos c0_0]; done))
  · refine lv_iload_n hx hb dX7_lesser_5 rfl (lv_at hl 0 rfl) ?_
    refine lv_goto (tgt := 10) hx hb dX7_lesser_6 (by decide) ?_
    exact hret _ _ _ _ _ _ dX7_lesser_10 X rfl (by first | (rw [f_X7_lesser, if_neg c0_0]; done) | (rw [f_X7_lesser, if_neg c0_0]; rfl) | (simp only [f_X7_lesser, if_neg c0_0]; done))
def f_X7_greater (x : Int32) (y : Int32) : Int32 := (if x ≤ y then y else x)
set_option maxHeartbeats 4000000 in
set_option maxRecDepth 100000 in
theorem c_X7_greater (l : Launch) (D : va_G) (ty : Nat → ClassId) (x : Int32) (y : Int32) : MC l D ty yX7_greater cX7_greater 2 (some .int) 0 [.int x, .int y] [] (some (.int (f_X7_greater x y))) [] := by
  refine mc_i (by decide +kernel) (Nat.le_of_ble_eq_true rfl) ?_
  intro p e s m args below meth c A Q ls C hK hA X hret hl
  have hx := C.1
  have hb := C.2.1
  have hl : lv_has ls 2 [(0, .int x), (1, .int y)] := hl
  have X : Wd D A s.heap [] s.heap [] := X
  refine lv_iload_n hx hb dX7_greater_0 rfl (lv_at hl 0 rfl) ?_
  refine lv_iload_n hx hb dX7_greater_1 rfl (lv_at hl 1 rfl) ?_
  refine lv_icmp_le (tgt := 9) hx hb dX7_greater_2 (by decide) (fun c0_0 => ?_) (fun c0_0 => ?_)
  · refine lv_iload_n hx hb dX7_greater_9 rfl (lv_at hl 1 rfl) ?_
    exact hret _ _ _ _ _ _ dX7_greater_10 X rfl (by first | (rw [f_X7_greater, if_pos c0_0]; done) | (rw [f_X7_greater, if_pos c0_0]; rfl) | (simp only [f_X7_greater, if_pos c0_0]; done))
  · refine lv_iload_n hx hb dX7_greater_5 rfl (lv_at hl 0 rfl) ?_
    refine lv_goto (tgt := 10) hx hb dX7_greater_6 (by decide) ?_
    exact hret _ _ _ _ _ _ dX7_greater_10 X rfl (by first | (rw [f_X7_greater, if_neg c0_0]; done) | (rw [f_X7_greater, if_neg c0_0]; rfl) | (simp only [f_X7_greater, if_neg c0_0]; done))
def v_X7_floor_1 (x : Int64) (y : Int64) : Int64 := (if 0 ≤ (lg_cmp (x - x / y * y) 0) then (x / y) else ((x / y) - 1))
def f_X7_floor (x : Int64) (y : Int64) : Int32 := ((v_X7_floor_1 x y).toInt32)
set_option maxHeartbeats 4000000 in
set_option maxRecDepth 100000 in
theorem c_X7_floor (l : Launch) (D : va_G) (ty : Nat → ClassId) (x : Int64) (y : Int64) (hy : ¬ y = 0) : MC l D ty yX7_floor cX7_floor 6 (some .int) 0 [.long x, .long y] [] (some (.int (f_X7_floor x y))) [] := by
  refine mc_i (by decide +kernel) (Nat.le_of_ble_eq_true rfl) ?_
  intro p e s m args below meth c A Q ls C hK hA X hret hl
  have hx := C.1
  have hb := C.2.1
  have hl : lv_has ls 6 [(0, .long x), (2, .long y)] := hl
  have X : Wd D A s.heap [] s.heap [] := X
  refine lv_lload_n hx hb dX7_floor_0 rfl (lv_at hl 0 rfl) ?_
  refine lv_lload_n hx hb dX7_floor_1 rfl (lv_at hl 1 rfl) ?_
  refine lv_ldiv hx hb dX7_floor_2 hy ?_
  refine lv_lstore (lv' := [(4, .long (x / y)), (0, .long x), (2, .long y)]) hx hb dX7_floor_3 hl (by decide) rfl (fun ls hl => ?_)
  refine lv_lload_n hx hb dX7_floor_5 rfl (lv_at hl 1 rfl) ?_
  refine lv_lload_n hx hb dX7_floor_6 rfl (lv_at hl 2 rfl) ?_
  refine lv_lrem hx hb dX7_floor_7 hy ?_
  refine lv_lconst (v := 0) hx hb dX7_floor_8 (by decide) ?_
  refine W.lcmp hx hb dX7_floor_9 ?_
  have J22_2 : ∀ (x1 : Int64) (ls : Array Slot) (H : Heap) (locs : List Loc), x1 = (v_X7_floor_1 x y) → lv_has ls 6 [(4, .long (x / y)), (0, .long x), (2, .long y)] → Wd D A s.heap [] H locs → W p l e (rmD 0) s m args below meth c H locs 0 0 Q (F0 m 22 ls [.long x1]) := by
    intro x1 ls H locs ex1 hl X
    subst ex1
    refine lv_l2i hx hb dX7_floor_22 rfl ?_
    exact hret _ _ _ _ _ _ dX7_floor_23 X rfl (by first | (rw [f_X7_floor]; done) | (rw [f_X7_floor]; rfl) | (simp only [f_X7_floor]; done))
  refine lv_if_ge (tgt := 20) hx hb dX7_floor_10 (by decide) (fun c0_0 => ?_) (fun c0_0 => ?_)
  · refine lv_lload hx hb dX7_floor_20 (lv_at hl 0 rfl) ?_
    exact J22_2 (x / y) _ _ _ (by first | (rw [v_X7_floor_1, if_pos c0_0]; done) | (rw [v_X7_floor_1, if_pos c0_0]; rfl) | (simp only [v_X7_floor_1, if_pos c0_0]; done)) (lv_sub hl [0, 1, 2] rfl) X
  · refine lv_lload hx hb dX7_floor_13 (lv_at hl 0 rfl) ?_
    refine lv_lconst (v := 1) hx hb dX7_floor_15 (by decide) ?_
    refine lv_lsub hx hb dX7_floor_16 ?_
    refine lv_goto (tgt := 22) hx hb dX7_floor_17 (by decide) ?_
    exact J22_2 ((x / y) - 1) _ _ _ (by first | (rw [v_X7_floor_1, if_neg c0_0]; done) | (rw [v_X7_floor_1, if_neg c0_0]; rfl) | (simp only [v_X7_floor_1, if_neg c0_0]; done)) (lv_sub hl [0, 1, 2] rfl) X
def f_X7_at (x : Int32) (y : Int32) : Int32 := ((10 + (16 * x)) + y)
set_option maxHeartbeats 4000000 in
set_option maxRecDepth 100000 in
theorem c_X7_at (l : Launch) (D : va_G) (ty : Nat → ClassId) (x : Int32) (y : Int32) : MC l D ty yX7_at cX7_at 2 (some .int) 0 [.int x, .int y] [] (some (.int (f_X7_at x y))) [] := by
  refine mc_i (by decide +kernel) (Nat.le_of_ble_eq_true rfl) ?_
  intro p e s m args below meth c A Q ls C hK hA X hret hl
  have hx := C.1
  have hb := C.2.1
  have hl : lv_has ls 2 [(0, .int x), (1, .int y)] := hl
  have X : Wd D A s.heap [] s.heap [] := X
  refine lv_bipush (v := 10) hx hb dX7_at_0 (by decide) ?_
  refine lv_bipush (v := 16) hx hb dX7_at_2 (by decide) ?_
  refine lv_iload_n hx hb dX7_at_4 rfl (lv_at hl 0 rfl) ?_
  refine lv_imul hx hb dX7_at_5 ?_
  refine lv_iadd hx hb dX7_at_6 ?_
  refine lv_iload_n hx hb dX7_at_7 rfl (lv_at hl 1 rfl) ?_
  refine lv_iadd hx hb dX7_at_8 ?_
  exact hret _ _ _ _ _ _ dX7_at_9 X rfl (by first | (rw [f_X7_at]; done) | (rw [f_X7_at]; rfl) | (simp only [f_X7_at]; done))
def f_X7_isWheel (v : Int32) : Int32 := (f_X7_within v 0 3)
set_option maxHeartbeats 4000000 in
set_option maxRecDepth 100000 in
theorem c_X7_isWheel (l : Launch) (D : va_G) (ty : Nat → ClassId) (v : Int32) : MC l D ty yX7_isWheel cX7_isWheel 1 (some .boolean) 1 [.int v] [] (some (.int (f_X7_isWheel v))) [] := by
  refine mc_z (by decide +kernel) (Nat.le_of_ble_eq_true rfl) (and_b (isB_m7within _ _ _)) ?_
  intro p e s m args below meth c A Q ls C hK hA X hret hl
  have hx := C.1
  have hb := C.2.1
  have hl : lv_has ls 1 [(0, .int v)] := hl
  have X : Wd D A s.heap [] s.heap [] := X
  refine lv_iload_n hx hb dX7_isWheel_0 rfl (lv_at hl 0 rfl) ?_
  refine lv_iconst (v := 0) hx hb dX7_isWheel_1 (by decide) ?_
  refine lv_iconst (v := 3) hx hb dX7_isWheel_2 (by decide) ?_
  refine s_cS0i C hK hA X (c_X7_within l D ty v 0 3) [] pk_n rfl sl_X7_within wm_X7_37 ⟨Nat.le_of_ble_eq_true rfl, Nat.le_of_ble_eq_true rfl⟩ ⟨Nat.zero_le _, Nat.zero_le _⟩ hl.1 rfl (Nat.le_of_ble_eq_true rfl) dX7_isWheel_3 (fun H locs X => ?_)
  exact hret _ _ _ _ _ _ dX7_isWheel_6 X rfl (by first | (rw [f_X7_isWheel]; done) | (rw [f_X7_isWheel]; rfl) | (simp only [f_X7_isWheel]; done))
def f_X7_isSurface (v : Int32) : Int32 := (f_X7_within v 0 2)
set_option maxHeartbeats 4000000 in
set_option maxRecDepth 100000 in
theorem c_X7_isSurface (l : Launch) (D : va_G) (ty : Nat → ClassId) (v : Int32) : MC l D ty yX7_isSurface cX7_isSurface 1 (some .boolean) 1 [.int v] [] (some (.int (f_X7_isSurface v))) [] := by
  refine mc_z (by decide +kernel) (Nat.le_of_ble_eq_true rfl) (and_b (isB_m7within _ _ _)) ?_
  intro p e s m args below meth c A Q ls C hK hA X hret hl
  have hx := C.1
  have hb := C.2.1
  have hl : lv_has ls 1 [(0, .int v)] := hl
  have X : Wd D A s.heap [] s.heap [] := X
  refine lv_iload_n hx hb dX7_isSurface_0 rfl (lv_at hl 0 rfl) ?_
  refine lv_iconst (v := 0) hx hb dX7_isSurface_1 (by decide) ?_
  refine lv_iconst (v := 2) hx hb dX7_isSurface_2 (by decide) ?_
  refine s_cS0i C hK hA X (c_X7_within l D ty v 0 2) [] pk_n rfl sl_X7_within wm_X7_37 ⟨Nat.le_of_ble_eq_true rfl, Nat.le_of_ble_eq_true rfl⟩ ⟨Nat.zero_le _, Nat.zero_le _⟩ hl.1 rfl (Nat.le_of_ble_eq_true rfl) dX7_isSurface_3 (fun H locs X => ?_)
  exact hret _ _ _ _ _ _ dX7_isSurface_6 X rfl (by first | (rw [f_X7_isSurface]; done) | (rw [f_X7_isSurface]; rfl) | (simp only [f_X7_isSurface]; done))
def f_X7_rank (ph : Int32) : Int32 := (if ph = 2 then 0 else (if ph = 1 then 1 else (if ph = 3 then 2 else (if ph = 4 then 3 else 4))))
set_option maxHeartbeats 4000000 in
set_option maxRecDepth 100000 in
theorem c_X7_rank (l : Launch) (D : va_G) (ty : Nat → ClassId) (ph : Int32) : MC l D ty yX7_rank cX7_rank 1 (some .int) 0 [.int ph] [] (some (.int (f_X7_rank ph))) [] := by
  refine mc_i (by decide +kernel) (Nat.le_of_ble_eq_true rfl) ?_
  intro p e s m args below meth c A Q ls C hK hA X hret hl
  have hx := C.1
  have hb := C.2.1
  have hl : lv_has ls 1 [(0, .int ph)] := hl
  have X : Wd D A s.heap [] s.heap [] := X
  refine lv_iload_n hx hb dX7_rank_0 rfl (lv_at hl 0 rfl) ?_
  refine lv_iconst (v := 2) hx hb dX7_rank_1 (by decide) ?_
  refine lv_icmp_ne (tgt := 9) hx hb dX7_rank_2 (by decide) (fun c0_0 => ?_) (fun c0_0 => ?_)
  · refine lv_iload_n hx hb dX7_rank_9 rfl (lv_at hl 0 rfl) ?_
    refine lv_iconst (v := 1) hx hb dX7_rank_10 (by decide) ?_
    refine lv_icmp_ne (tgt := 18) hx hb dX7_rank_11 (by decide) (fun c1_1 => ?_) (fun c1_1 => ?_)
    · refine lv_iload_n hx hb dX7_rank_18 rfl (lv_at hl 0 rfl) ?_
      refine lv_iconst (v := 3) hx hb dX7_rank_19 (by decide) ?_
      refine lv_icmp_ne (tgt := 27) hx hb dX7_rank_20 (by decide) (fun c2_2 => ?_) (fun c2_2 => ?_)
      · refine lv_iload_n hx hb dX7_rank_27 rfl (lv_at hl 0 rfl) ?_
        refine lv_iconst (v := 4) hx hb dX7_rank_28 (by decide) ?_
        refine lv_icmp_ne (tgt := 36) hx hb dX7_rank_29 (by decide) (fun c3_3 => ?_) (fun c3_3 => ?_)
        · refine lv_iconst (v := 4) hx hb dX7_rank_36 (by decide) ?_
          exact hret _ _ _ _ _ _ dX7_rank_37 X rfl (by first | (rw [f_X7_rank, if_neg c0_0, if_neg c1_1, if_neg c2_2, if_neg c3_3]; done) | (rw [f_X7_rank, if_neg c0_0, if_neg c1_1, if_neg c2_2, if_neg c3_3]; rfl) | (simp only [f_X7_rank, if_neg c0_0, if_neg c1_1, if_neg c2_2, if_neg c3_3]; done))
        · refine lv_iconst (v := 3) hx hb dX7_rank_32 (by decide) ?_
          refine lv_goto (tgt := 37) hx hb dX7_rank_33 (by decide) ?_
          exact hret _ _ _ _ _ _ dX7_rank_37 X rfl (by first | (rw [f_X7_rank, if_neg c0_0, if_neg c1_1, if_neg c2_2, if_pos c3_3]; done) | (rw [f_X7_rank, if_neg c0_0, if_neg c1_1, if_neg c2_2, if_pos c3_3]; rfl) | (simp only [f_X7_rank, if_neg c0_0, if_neg c1_1, if_neg c2_2, if_pos c3_3]; done))
      · refine lv_iconst (v := 2) hx hb dX7_rank_23 (by decide) ?_
        refine lv_goto (tgt := 37) hx hb dX7_rank_24 (by decide) ?_
        exact hret _ _ _ _ _ _ dX7_rank_37 X rfl (by first | (rw [f_X7_rank, if_neg c0_0, if_neg c1_1, if_pos c2_2]; done) | (rw [f_X7_rank, if_neg c0_0, if_neg c1_1, if_pos c2_2]; rfl) | (simp only [f_X7_rank, if_neg c0_0, if_neg c1_1, if_pos c2_2]; done))
    · refine lv_iconst (v := 1) hx hb dX7_rank_14 (by decide) ?_
      refine lv_goto (tgt := 37) hx hb dX7_rank_15 (by decide) ?_
      exact hret _ _ _ _ _ _ dX7_rank_37 X rfl (by first | (rw [f_X7_rank, if_neg c0_0, if_pos c1_1]; done) | (rw [f_X7_rank, if_neg c0_0, if_pos c1_1]; rfl) | (simp only [f_X7_rank, if_neg c0_0, if_pos c1_1]; done))
  · refine lv_iconst (v := 0) hx hb dX7_rank_5 (by decide) ?_
    refine lv_goto (tgt := 37) hx hb dX7_rank_6 (by decide) ?_
    exact hret _ _ _ _ _ _ dX7_rank_37 X rfl (by first | (rw [f_X7_rank, if_pos c0_0]; done) | (rw [f_X7_rank, if_pos c0_0]; rfl) | (simp only [f_X7_rank, if_pos c0_0]; done))
def v_X7_frictionOf_1 (sf : Int32) : Int32 := (if sf = 0 then 1000 else (if sf = 1 then 600 else 150))
def v_X7_frictionOf_3 (sf : Int32) : Int32 := (if sf = 0 then 750 else (if sf = 1 then 700 else 600))
def f_X7_frictionOf (sf : Int32) (sl : Int32) : Int32 := (if 150 < sl then ((v_X7_frictionOf_1 sf) - ((((((v_X7_frictionOf_1 sf).toInt64) * ((1000 - (v_X7_frictionOf_3 sf)).toInt64)) * ((sl - 150).toInt64)) / 850000).toInt32)) else (((v_X7_frictionOf_1 sf) * sl) / 150))
set_option maxHeartbeats 4000000 in
set_option maxRecDepth 100000 in
theorem c_X7_frictionOf (l : Launch) (D : va_G) (ty : Nat → ClassId) (sf : Int32) (sl : Int32) : MC l D ty yX7_frictionOf cX7_frictionOf 4 (some .int) 0 [.int sf, .int sl] [] (some (.int (f_X7_frictionOf sf sl))) [] := by
  refine mc_i (by decide +kernel) (Nat.le_of_ble_eq_true rfl) ?_
  intro p e s m args below meth c A Q ls C hK hA X hret hl
  have hx := C.1
  have hb := C.2.1
  have hl : lv_has ls 4 [(0, .int sf), (1, .int sl)] := hl
  have X : Wd D A s.heap [] s.heap [] := X
  refine lv_iload_n hx hb dX7_frictionOf_0 rfl (lv_at hl 0 rfl) ?_
  have J24_2 : ∀ (x1 : Int32) (ls : Array Slot) (H : Heap) (locs : List Loc), x1 = (v_X7_frictionOf_1 sf) → lv_has ls 4 [(0, .int sf), (1, .int sl)] → Wd D A s.heap [] H locs → W p l e (rmD 0) s m args below meth c H locs 0 0 Q (F0 m 24 ls [.int x1]) := by
    intro x1 ls H locs ex1 hl X
    subst ex1
    refine lv_istore_n (lv' := [(2, .int (v_X7_frictionOf_1 sf)), (0, .int sf), (1, .int sl)]) hx hb dX7_frictionOf_24 rfl hl (by decide) rfl (fun ls hl => ?_)
    refine lv_iload_n hx hb dX7_frictionOf_25 rfl (lv_at hl 1 rfl) ?_
    have J49_4 : ∀ (x3 : Int32) (ls : Array Slot) (H : Heap) (locs : List Loc), x3 = (v_X7_frictionOf_3 sf) → lv_has ls 4 [(2, .int (v_X7_frictionOf_1 sf)), (0, .int sf), (1, .int sl)] → Wd D A s.heap [] H locs → W p l e (rmD 0) s m args below meth c H locs 0 0 Q (F0 m 49 ls [.int x3]) := by
      intro x3 ls H locs ex3 hl X
      subst ex3
      refine lv_istore_n (lv' := [(3, .int (v_X7_frictionOf_3 sf)), (2, .int (v_X7_frictionOf_1 sf)), (0, .int sf), (1, .int sl)]) hx hb dX7_frictionOf_49 rfl hl (by decide) rfl (fun ls hl => ?_)
      refine lv_iload_n hx hb dX7_frictionOf_50 rfl (lv_at hl 3 rfl) ?_
      refine lv_sipush (v := 150) hx hb dX7_frictionOf_51 (by decide) ?_
      refine lv_icmp_gt (tgt := 67) hx hb dX7_frictionOf_54 (by decide) (fun c0_0 => ?_) (fun c0_0 => ?_)
      · refine lv_iload_n hx hb dX7_frictionOf_67 rfl (lv_at hl 1 rfl) ?_
        refine lv_iload_n hx hb dX7_frictionOf_68 rfl (lv_at hl 1 rfl) ?_
        refine lv_i2l hx hb dX7_frictionOf_69 rfl ?_
        refine lv_sipush (v := 1000) hx hb dX7_frictionOf_70 (by decide) ?_
        refine lv_iload_n hx hb dX7_frictionOf_73 rfl (lv_at hl 0 rfl) ?_
        refine lv_isub hx hb dX7_frictionOf_74 ?_
        refine lv_i2l hx hb dX7_frictionOf_75 rfl ?_
        refine lv_lmul hx hb dX7_frictionOf_76 ?_
        refine lv_iload_n hx hb dX7_frictionOf_77 rfl (lv_at hl 3 rfl) ?_
        refine lv_sipush (v := 150) hx hb dX7_frictionOf_78 (by decide) ?_
        refine lv_isub hx hb dX7_frictionOf_81 ?_
        refine lv_i2l hx hb dX7_frictionOf_82 rfl ?_
        refine lv_lmul hx hb dX7_frictionOf_83 ?_
        refine lv_ldc2 hx hb C.2.2.2.1 (C.2.2.2.2 _ wk_X7_41) dX7_frictionOf_84 ?_
        refine lv_ldiv hx hb dX7_frictionOf_87 (by decide) ?_
        refine lv_l2i hx hb dX7_frictionOf_88 rfl ?_
        refine lv_isub hx hb dX7_frictionOf_89 ?_
        exact hret _ _ _ _ _ _ dX7_frictionOf_90 X rfl (by first | (rw [f_X7_frictionOf, if_pos c0_0]; done) | (rw [f_X7_frictionOf, if_pos c0_0]; rfl) | (simp only [f_X7_frictionOf, if_pos c0_0]; done))
      · refine lv_iload_n hx hb dX7_frictionOf_57 rfl (lv_at hl 1 rfl) ?_
        refine lv_iload_n hx hb dX7_frictionOf_58 rfl (lv_at hl 3 rfl) ?_
        refine lv_imul hx hb dX7_frictionOf_59 ?_
        refine lv_sipush (v := 150) hx hb dX7_frictionOf_60 (by decide) ?_
        refine lv_idiv hx hb dX7_frictionOf_63 (by decide) ?_
        refine lv_goto (tgt := 90) hx hb dX7_frictionOf_64 (by decide) ?_
        exact hret _ _ _ _ _ _ dX7_frictionOf_90 X rfl (by first | (rw [f_X7_frictionOf, if_neg c0_0]; done) | (rw [f_X7_frictionOf, if_neg c0_0]; rfl) | (simp only [f_X7_frictionOf, if_neg c0_0]; done))
    refine lv_if_ne (tgt := 35) hx hb dX7_frictionOf_26 (by decide) (fun c0_0 => ?_) (fun c0_0 => ?_)
    · refine lv_iload_n hx hb dX7_frictionOf_35 rfl (lv_at hl 1 rfl) ?_
      refine lv_iconst (v := 1) hx hb dX7_frictionOf_36 (by decide) ?_
      refine lv_icmp_ne (tgt := 46) hx hb dX7_frictionOf_37 (by decide) (fun c1_1 => ?_) (fun c1_1 => ?_)
      · refine lv_sipush (v := 600) hx hb dX7_frictionOf_46 (by decide) ?_
        exact J49_4 600 _ _ _ (by first | (rw [v_X7_frictionOf_3, if_neg c0_0, if_neg c1_1]; done) | (rw [v_X7_frictionOf_3, if_neg c0_0, if_neg c1_1]; rfl) | (simp only [v_X7_frictionOf_3, if_neg c0_0, if_neg c1_1]; done)) (lv_sub hl [0, 1, 2] rfl) X
      · refine lv_sipush (v := 700) hx hb dX7_frictionOf_40 (by decide) ?_
        refine lv_goto (tgt := 49) hx hb dX7_frictionOf_43 (by decide) ?_
        exact J49_4 700 _ _ _ (by first | (rw [v_X7_frictionOf_3, if_neg c0_0, if_pos c1_1]; done) | (rw [v_X7_frictionOf_3, if_neg c0_0, if_pos c1_1]; rfl) | (simp only [v_X7_frictionOf_3, if_neg c0_0, if_pos c1_1]; done)) (lv_sub hl [0, 1, 2] rfl) X
    · refine lv_sipush (v := 750) hx hb dX7_frictionOf_29 (by decide) ?_
      refine lv_goto (tgt := 49) hx hb dX7_frictionOf_32 (by decide) ?_
      exact J49_4 750 _ _ _ (by first | (rw [v_X7_frictionOf_3, if_pos c0_0]; done) | (rw [v_X7_frictionOf_3, if_pos c0_0]; rfl) | (simp only [v_X7_frictionOf_3, if_pos c0_0]; done)) (lv_sub hl [0, 1, 2] rfl) X
  refine lv_if_ne (tgt := 10) hx hb dX7_frictionOf_1 (by decide) (fun c0_0 => ?_) (fun c0_0 => ?_)
  · refine lv_iload_n hx hb dX7_frictionOf_10 rfl (lv_at hl 0 rfl) ?_
    refine lv_iconst (v := 1) hx hb dX7_frictionOf_11 (by decide) ?_
    refine lv_icmp_ne (tgt := 21) hx hb dX7_frictionOf_12 (by decide) (fun c1_1 => ?_) (fun c1_1 => ?_)
    · refine lv_sipush (v := 150) hx hb dX7_frictionOf_21 (by decide) ?_
      exact J24_2 150 _ _ _ (by first | (rw [v_X7_frictionOf_1, if_neg c0_0, if_neg c1_1]; done) | (rw [v_X7_frictionOf_1, if_neg c0_0, if_neg c1_1]; rfl) | (simp only [v_X7_frictionOf_1, if_neg c0_0, if_neg c1_1]; done)) (lv_sub hl [0, 1] rfl) X
    · refine lv_sipush (v := 600) hx hb dX7_frictionOf_15 (by decide) ?_
      refine lv_goto (tgt := 24) hx hb dX7_frictionOf_18 (by decide) ?_
      exact J24_2 600 _ _ _ (by first | (rw [v_X7_frictionOf_1, if_neg c0_0, if_pos c1_1]; done) | (rw [v_X7_frictionOf_1, if_neg c0_0, if_pos c1_1]; rfl) | (simp only [v_X7_frictionOf_1, if_neg c0_0, if_pos c1_1]; done)) (lv_sub hl [0, 1] rfl) X
  · refine lv_sipush (v := 1000) hx hb dX7_frictionOf_4 (by decide) ?_
    refine lv_goto (tgt := 24) hx hb dX7_frictionOf_7 (by decide) ?_
    exact J24_2 1000 _ _ _ (by first | (rw [v_X7_frictionOf_1, if_pos c0_0]; done) | (rw [v_X7_frictionOf_1, if_pos c0_0]; rfl) | (simp only [v_X7_frictionOf_1, if_pos c0_0]; done)) (lv_sub hl [0, 1] rfl) X
set_option maxHeartbeats 4000000 in
set_option maxRecDepth 100000 in
theorem c_X7_get (l : Launch) (D : va_G) (ty : Nat → ClassId) (o : Nat) (a : Nat) (b : Nat) (c_ : Nat) (g : F1) (hs : Int64) (n : F1) (x : Int32) (y : Int32) (ix : Nat) (hi : 10 + 16 * x + y = nI ix) (hx9 : ix < 253) : MC l D ty yX7_get cX7_get 3 (some .int) 1 [.ref o, .int x, .int y] [(o, moE g hs a b c_), (a, arE ty 253 n)] (some (.int (n ix))) [(o, moE g hs a b c_), (a, arE ty 253 n)] := by
  refine mc_i (by decide +kernel) (Nat.le_of_ble_eq_true rfl) ?_
  intro p e s m args below meth c A Q ls C hK hA X hret hl
  have hx := C.1
  have hb := C.2.1
  have hl : lv_has ls 3 [(0, .ref o), (1, .int x), (2, .int y)] := hl
  have X : Wd D A s.heap [(o, moE g hs a b c_), (a, arE ty 253 n)] s.heap [] := X
  refine lv_aload_n hx hb dX7_get_0 rfl (lv_at hl 0 rfl) ?_
  refine get_mo_0 C hK X 0 rfl fl_X7_7 dX7_get_1 ?_
  refine lv_iload_n hx hb dX7_get_4 rfl (lv_at hl 1 rfl) ?_
  refine lv_iload_n hx hb dX7_get_5 rfl (lv_at hl 2 rfl) ?_
  refine s_cS0i C hK hA X (c_X7_at l D ty x y) [] pk_n rfl sl_X7_at wm_X7_33 ⟨Nat.le_of_ble_eq_true rfl, Nat.le_of_ble_eq_true rfl⟩ ⟨Nat.zero_le _, Nat.zero_le _⟩ hl.1 rfl (Nat.le_of_ble_eq_true rfl) dX7_get_6 (fun H locs X => ?_)
  refine s_ialN C hK X 1 ix rfl hi hx9 (by decide) dX7_get_9 ?_
  exact hret _ _ _ _ _ _ dX7_get_10 X rfl rfl
def f_X7_sets_a (n : F1) (val : Int32) (ix : Nat) : F1 := (upd n ix val)
set_option maxHeartbeats 4000000 in
set_option maxRecDepth 100000 in
theorem c_X7_sets (l : Launch) (D : va_G) (ty : Nat → ClassId) (o : Nat) (a : Nat) (b : Nat) (c_ : Nat) (g : F1) (hs : Int64) (n : F1) (x : Int32) (y : Int32) (val : Int32) (ix : Nat) (hi : 10 + 16 * x + y = nI ix) (hx9 : ix < 253) : MC l D ty yX7_sets cX7_sets 4 none 1 [.ref o, .int x, .int y, .int val] [(o, moE g hs a b c_), (a, arE ty 253 n)] none [(o, moE g hs a b c_), (a, arE ty 253 (f_X7_sets_a n val ix))] := by
  refine mc_v (by decide +kernel) (Nat.le_of_ble_eq_true rfl) ?_
  intro p e s m args below meth c A Q ls C hK hA X hret hl
  have hx := C.1
  have hb := C.2.1
  have hl : lv_has ls 4 [(0, .ref o), (1, .int x), (2, .int y), (3, .int val)] := hl
  have X : Wd D A s.heap [(o, moE g hs a b c_), (a, arE ty 253 n)] s.heap [] := X
  refine lv_aload_n hx hb dX7_sets_0 rfl (lv_at hl 0 rfl) ?_
  refine get_mo_0 C hK X 0 rfl fl_X7_7 dX7_sets_1 ?_
  refine lv_iload_n hx hb dX7_sets_4 rfl (lv_at hl 1 rfl) ?_
  refine lv_iload_n hx hb dX7_sets_5 rfl (lv_at hl 2 rfl) ?_
  refine s_cS0i C hK hA X (c_X7_at l D ty x y) [] pk_n rfl sl_X7_at wm_X7_33 ⟨Nat.le_of_ble_eq_true rfl, Nat.le_of_ble_eq_true rfl⟩ ⟨Nat.zero_le _, Nat.zero_le _⟩ hl.1 rfl (Nat.le_of_ble_eq_true rfl) dX7_sets_6 (fun H locs X => ?_)
  refine lv_iload_n hx hb dX7_sets_9 rfl (lv_at hl 3 rfl) ?_
  refine s_iasN C hK X 1 ix rfl hi hx9 (by decide) dX7_sets_10 (fun H locs X => ?_)
  have X : Wd D A s.heap [(o, moE g hs a b c_), (a, arE ty 253 (upd n ix val))] H locs := X
  have e_1_0 : (f_X7_sets_a n val ix) = (upd n ix val) := by first | (rw [f_X7_sets_a]; done) | (rw [f_X7_sets_a]; rfl) | (simp only [f_X7_sets_a]; done)
  exact hret _ _ _ _ _ dX7_sets_11 X (by rw [e_1_0])
def f_X7_outs (n : F1) : Int32 := ((((n 17) + (n 33)) + (n 49)) + (n 65))
set_option maxHeartbeats 4000000 in
set_option maxRecDepth 100000 in
theorem c_X7_outs (l : Launch) (D : va_G) (ty : Nat → ClassId) (o : Nat) (a : Nat) (b : Nat) (c_ : Nat) (g : F1) (hs : Int64) (n : F1) : MC l D ty yX7_outs cX7_outs 1 (some .int) 2 [.ref o] [(o, moE g hs a b c_), (a, arE ty 253 n)] (some (.int (f_X7_outs n))) [(o, moE g hs a b c_), (a, arE ty 253 n)] := by
  refine mc_i (by decide +kernel) (Nat.le_of_ble_eq_true rfl) ?_
  intro p e s m args below meth c A Q ls C hK hA X hret hl
  have hx := C.1
  have hb := C.2.1
  have hl : lv_has ls 1 [(0, .ref o)] := hl
  have X : Wd D A s.heap [(o, moE g hs a b c_), (a, arE ty 253 n)] s.heap [] := X
  refine lv_aload_n hx hb dX7_outs_0 rfl (lv_at hl 0 rfl) ?_
  refine lv_iconst (v := 0) hx hb dX7_outs_1 (by decide) ?_
  refine lv_bipush (v := 7) hx hb dX7_outs_2 (by decide) ?_
  refine s_cV0i C hK hA X (c_X7_get l D ty o a b c_ g hs n 0 7 17 (by decide) (by decide)) [0, 1] (pk_c rfl (pk_c rfl pk_n)) rfl ml_X7_get wm_X7_45 (q0 := 0) rfl rfl rfl ⟨Nat.le_of_ble_eq_true rfl, Nat.le_of_ble_eq_true rfl⟩ ⟨Nat.zero_le _, Nat.zero_le _⟩ hl.1 rfl (Nat.le_of_ble_eq_true rfl) dX7_outs_4 (fun H locs X => ?_)
  refine lv_aload_n hx hb dX7_outs_7 rfl (lv_at hl 0 rfl) ?_
  refine lv_iconst (v := 1) hx hb dX7_outs_8 (by decide) ?_
  refine lv_bipush (v := 7) hx hb dX7_outs_9 (by decide) ?_
  refine s_cV0i C hK hA X (c_X7_get l D ty o a b c_ g hs n 1 7 33 (by decide) (by decide)) [0, 1] (pk_c rfl (pk_c rfl pk_n)) rfl ml_X7_get wm_X7_45 (q0 := 0) rfl rfl rfl ⟨Nat.le_of_ble_eq_true rfl, Nat.le_of_ble_eq_true rfl⟩ ⟨Nat.zero_le _, Nat.zero_le _⟩ hl.1 rfl (Nat.le_of_ble_eq_true rfl) dX7_outs_11 (fun H locs X => ?_)
  refine lv_iadd hx hb dX7_outs_14 ?_
  refine lv_aload_n hx hb dX7_outs_15 rfl (lv_at hl 0 rfl) ?_
  refine lv_iconst (v := 2) hx hb dX7_outs_16 (by decide) ?_
  refine lv_bipush (v := 7) hx hb dX7_outs_17 (by decide) ?_
  refine s_cV0i C hK hA X (c_X7_get l D ty o a b c_ g hs n 2 7 49 (by decide) (by decide)) [0, 1] (pk_c rfl (pk_c rfl pk_n)) rfl ml_X7_get wm_X7_45 (q0 := 0) rfl rfl rfl ⟨Nat.le_of_ble_eq_true rfl, Nat.le_of_ble_eq_true rfl⟩ ⟨Nat.zero_le _, Nat.zero_le _⟩ hl.1 rfl (Nat.le_of_ble_eq_true rfl) dX7_outs_19 (fun H locs X => ?_)
  refine lv_iadd hx hb dX7_outs_22 ?_
  refine lv_aload_n hx hb dX7_outs_23 rfl (lv_at hl 0 rfl) ?_
  refine lv_iconst (v := 3) hx hb dX7_outs_24 (by decide) ?_
  refine lv_bipush (v := 7) hx hb dX7_outs_25 (by decide) ?_
  refine s_cV0i C hK hA X (c_X7_get l D ty o a b c_ g hs n 3 7 65 (by decide) (by decide)) [0, 1] (pk_c rfl (pk_c rfl pk_n)) rfl ml_X7_get wm_X7_45 (q0 := 0) rfl rfl rfl ⟨Nat.le_of_ble_eq_true rfl, Nat.le_of_ble_eq_true rfl⟩ ⟨Nat.zero_le _, Nat.zero_le _⟩ hl.1 rfl (Nat.le_of_ble_eq_true rfl) dX7_outs_27 (fun H locs X => ?_)
  refine lv_iadd hx hb dX7_outs_30 ?_
  exact hret _ _ _ _ _ _ dX7_outs_31 X rfl (by first | (rw [f_X7_outs]; done) | (rw [f_X7_outs]; rfl) | (simp only [f_X7_outs]; done))
def f_X7_isActive (n : F1) : Int32 := (if (n 8) = 1 then (if (n 3) ≤ 0 then 0 else (if (n 4) < 1400 then 0 else (if 2 ≤ (f_X7_outs n) then 0 else 1))) else 0)
set_option maxHeartbeats 4000000 in
set_option maxRecDepth 100000 in
theorem c_X7_isActive (l : Launch) (D : va_G) (ty : Nat → ClassId) (o : Nat) (a : Nat) (b : Nat) (c_ : Nat) (g : F1) (hs : Int64) (n : F1) : MC l D ty yX7_isActive cX7_isActive 1 (some .boolean) 3 [.ref o] [(o, moE g hs a b c_), (a, arE ty 253 n)] (some (.int (f_X7_isActive n))) [(o, moE g hs a b c_), (a, arE ty 253 n)] := by
  refine mc_z (by decide +kernel) (Nat.le_of_ble_eq_true rfl) (and_b (by unfold f_X7_isActive; (repeat' split) <;> first | exact isB0 | exact isB1)) ?_
  intro p e s m args below meth c A Q ls C hK hA X hret hl
  have hx := C.1
  have hb := C.2.1
  have hl : lv_has ls 1 [(0, .ref o)] := hl
  have X : Wd D A s.heap [(o, moE g hs a b c_), (a, arE ty 253 n)] s.heap [] := X
  refine lv_aload_n hx hb dX7_isActive_0 rfl (lv_at hl 0 rfl) ?_
  refine get_mo_0 C hK X 0 rfl fl_X7_7 dX7_isActive_1 ?_
  refine lv_bipush (v := 8) hx hb dX7_isActive_4 (by decide) ?_
  refine s_ialN C hK X 1 8 rfl rfl (by decide) (by decide) dX7_isActive_6 ?_
  refine lv_iconst (v := 1) hx hb dX7_isActive_7 (by decide) ?_
  refine lv_icmp_ne (tgt := 44) hx hb dX7_isActive_8 (by decide) (fun c0_0 => ?_) (fun c0_0 => ?_)
  · refine lv_iconst (v := 0) hx hb dX7_isActive_44 (by decide) ?_
    exact hret _ _ _ _ _ _ dX7_isActive_45 X rfl (by first | (rw [f_X7_isActive, if_neg c0_0]; done) | (rw [f_X7_isActive, if_neg c0_0]; rfl) | (simp only [f_X7_isActive, if_neg c0_0]; done))
  · refine lv_aload_n hx hb dX7_isActive_11 rfl (lv_at hl 0 rfl) ?_
    refine get_mo_0 C hK X 0 rfl fl_X7_7 dX7_isActive_12 ?_
    refine lv_iconst (v := 3) hx hb dX7_isActive_15 (by decide) ?_
    refine s_ialN C hK X 1 3 rfl rfl (by decide) (by decide) dX7_isActive_16 ?_
    refine lv_if_le (tgt := 44) hx hb dX7_isActive_17 (by decide) (fun c1_1 => ?_) (fun c1_1 => ?_)
    · refine lv_iconst (v := 0) hx hb dX7_isActive_44 (by decide) ?_
      exact hret _ _ _ _ _ _ dX7_isActive_45 X rfl (by first | (rw [f_X7_isActive, if_pos c0_0, if_pos c1_1]; done) | (rw [f_X7_isActive, if_pos c0_0, if_pos c1_1]; rfl) | (simp only [f_X7_isActive, if_pos c0_0, if_pos c1_1]; done))
    · refine lv_aload_n hx hb dX7_isActive_20 rfl (lv_at hl 0 rfl) ?_
      refine get_mo_0 C hK X 0 rfl fl_X7_7 dX7_isActive_21 ?_
      refine lv_iconst (v := 4) hx hb dX7_isActive_24 (by decide) ?_
      refine s_ialN C hK X 1 4 rfl rfl (by decide) (by decide) dX7_isActive_25 ?_
      refine lv_sipush (v := 1400) hx hb dX7_isActive_26 (by decide) ?_
      refine lv_icmp_lt (tgt := 44) hx hb dX7_isActive_29 (by decide) (fun c2_2 => ?_) (fun c2_2 => ?_)
      · refine lv_iconst (v := 0) hx hb dX7_isActive_44 (by decide) ?_
        exact hret _ _ _ _ _ _ dX7_isActive_45 X rfl (by first | (rw [f_X7_isActive, if_pos c0_0, if_neg c1_1, if_pos c2_2]; done) | (rw [f_X7_isActive, if_pos c0_0, if_neg c1_1, if_pos c2_2]; rfl) | (simp only [f_X7_isActive, if_pos c0_0, if_neg c1_1, if_pos c2_2]; done))
      · refine lv_aload_n hx hb dX7_isActive_32 rfl (lv_at hl 0 rfl) ?_
        refine s_cV0i C hK hA X (c_X7_outs l D ty o a b c_ g hs n) [0, 1] (pk_c rfl (pk_c rfl pk_n)) rfl ml_X7_outs wm_X7_80 (q0 := 0) rfl rfl rfl ⟨Nat.le_of_ble_eq_true rfl, Nat.le_of_ble_eq_true rfl⟩ ⟨Nat.zero_le _, Nat.zero_le _⟩ hl.1 rfl (Nat.le_of_ble_eq_true rfl) dX7_isActive_33 (fun H locs X => ?_)
        refine lv_iconst (v := 2) hx hb dX7_isActive_36 (by decide) ?_
        refine lv_icmp_ge (tgt := 44) hx hb dX7_isActive_37 (by decide) (fun c3_3 => ?_) (fun c3_3 => ?_)
        · refine lv_iconst (v := 0) hx hb dX7_isActive_44 (by decide) ?_
          exact hret _ _ _ _ _ _ dX7_isActive_45 X rfl (by first | (rw [f_X7_isActive, if_pos c0_0, if_neg c1_1, if_neg c2_2, if_pos c3_3]; done) | (rw [f_X7_isActive, if_pos c0_0, if_neg c1_1, if_neg c2_2, if_pos c3_3]; rfl) | (simp only [f_X7_isActive, if_pos c0_0, if_neg c1_1, if_neg c2_2, if_pos c3_3]; done))
        · refine lv_iconst (v := 1) hx hb dX7_isActive_40 (by decide) ?_
          refine lv_goto (tgt := 45) hx hb dX7_isActive_41 (by decide) ?_
          exact hret _ _ _ _ _ _ dX7_isActive_45 X rfl (by first | (rw [f_X7_isActive, if_pos c0_0, if_neg c1_1, if_neg c2_2, if_neg c3_3]; done) | (rw [f_X7_isActive, if_pos c0_0, if_neg c1_1, if_neg c2_2, if_neg c3_3]; rfl) | (simp only [f_X7_isActive, if_pos c0_0, if_neg c1_1, if_neg c2_2, if_neg c3_3]; done))
def f_X7_isAxleOut (n : F1) (j : Nat) : Int32 := (if ((n (10 + 16 * (j / 2 * 2) + 7)) + (n (10 + 16 * (j / 2 * 2 + 1) + 7))) ≤ 0 then 0 else 1)
set_option maxHeartbeats 4000000 in
set_option maxRecDepth 100000 in
theorem c_X7_isAxleOut (l : Launch) (D : va_G) (ty : Nat → ClassId) (o : Nat) (a : Nat) (b : Nat) (c_ : Nat) (g : F1) (hs : Int64) (n : F1) (j : Nat) (hj : j < 4) : MC l D ty yX7_isAxleOut cX7_isAxleOut 3 (some .boolean) 2 [.ref o, .int (nI j)] [(o, moE g hs a b c_), (a, arE ty 253 n)] (some (.int (f_X7_isAxleOut n j))) [(o, moE g hs a b c_), (a, arE ty 253 n)] := by
  refine mc_z (by decide +kernel) (Nat.le_of_ble_eq_true rfl) (and_b (by unfold f_X7_isAxleOut; (repeat' split) <;> first | exact isB0 | exact isB1)) ?_
  intro p e s m args below meth c A Q ls C hK hA X hret hl
  have hx := C.1
  have hb := C.2.1
  have hl : lv_has ls 3 [(0, .ref o), (1, .int (nI j))] := hl
  have X : Wd D A s.heap [(o, moE g hs a b c_), (a, arE ty 253 n)] s.heap [] := X
  refine lv_iload_n hx hb dX7_isAxleOut_0 rfl (lv_at hl 1 rfl) ?_
  refine lv_iconst (v := 2) hx hb dX7_isAxleOut_1 (by decide) ?_
  refine lv_idiv hx hb dX7_isAxleOut_2 (by decide) ?_
  refine s_eqi (y := nI (j / 2)) (pk_div (d := 2) (by omega) (by decide) (by decide)) ?_
  refine lv_iconst (v := 2) hx hb dX7_isAxleOut_3 (by decide) ?_
  refine lv_imul hx hb dX7_isAxleOut_4 ?_
  refine s_eqi (y := nI (j / 2 * 2)) (pk_mul (j / 2) 2) ?_
  refine lv_istore_n (lv' := [(2, .int (nI (j / 2 * 2))), (0, .ref o), (1, .int (nI j))]) hx hb dX7_isAxleOut_5 rfl hl (by decide) rfl (fun ls hl => ?_)
  refine lv_aload_n hx hb dX7_isAxleOut_6 rfl (lv_at hl 1 rfl) ?_
  refine lv_iload_n hx hb dX7_isAxleOut_7 rfl (lv_at hl 0 rfl) ?_
  refine lv_bipush (v := 7) hx hb dX7_isAxleOut_8 (by decide) ?_
  refine s_cV0i C hK hA X (c_X7_get l D ty o a b c_ g hs n (nI (j / 2 * 2)) 7 (10 + 16 * (j / 2 * 2) + 7) (atN (j / 2 * 2) 7) (by omega)) [0, 1] (pk_c rfl (pk_c rfl pk_n)) rfl ml_X7_get wm_X7_45 (q0 := 0) rfl rfl rfl ⟨Nat.le_of_ble_eq_true rfl, Nat.le_of_ble_eq_true rfl⟩ ⟨Nat.zero_le _, Nat.zero_le _⟩ hl.1 rfl (Nat.le_of_ble_eq_true rfl) dX7_isAxleOut_10 (fun H locs X => ?_)
  refine lv_aload_n hx hb dX7_isAxleOut_13 rfl (lv_at hl 1 rfl) ?_
  refine lv_iload_n hx hb dX7_isAxleOut_14 rfl (lv_at hl 0 rfl) ?_
  refine lv_iconst (v := 1) hx hb dX7_isAxleOut_15 (by decide) ?_
  refine lv_iadd hx hb dX7_isAxleOut_16 ?_
  refine s_eqi (y := nI (j / 2 * 2 + 1)) (nI_1 _) ?_
  refine lv_bipush (v := 7) hx hb dX7_isAxleOut_17 (by decide) ?_
  refine s_cV0i C hK hA X (c_X7_get l D ty o a b c_ g hs n (nI (j / 2 * 2 + 1)) 7 (10 + 16 * (j / 2 * 2 + 1) + 7) (atN (j / 2 * 2 + 1) 7) (by omega)) [0, 1] (pk_c rfl (pk_c rfl pk_n)) rfl ml_X7_get wm_X7_45 (q0 := 0) rfl rfl rfl ⟨Nat.le_of_ble_eq_true rfl, Nat.le_of_ble_eq_true rfl⟩ ⟨Nat.zero_le _, Nat.zero_le _⟩ hl.1 rfl (Nat.le_of_ble_eq_true rfl) dX7_isAxleOut_19 (fun H locs X => ?_)
  refine lv_iadd hx hb dX7_isAxleOut_22 ?_
  refine lv_if_le (tgt := 30) hx hb dX7_isAxleOut_23 (by decide) (fun c0_0 => ?_) (fun c0_0 => ?_)
  · refine lv_iconst (v := 0) hx hb dX7_isAxleOut_30 (by decide) ?_
    exact hret _ _ _ _ _ _ dX7_isAxleOut_31 X rfl (by first | (rw [f_X7_isAxleOut, if_pos c0_0]; done) | (rw [f_X7_isAxleOut, if_pos c0_0]; rfl) | (simp only [f_X7_isAxleOut, if_pos c0_0]; done))
  · refine lv_iconst (v := 1) hx hb dX7_isAxleOut_26 (by decide) ?_
    refine lv_goto (tgt := 31) hx hb dX7_isAxleOut_27 (by decide) ?_
    exact hret _ _ _ _ _ _ dX7_isAxleOut_31 X rfl (by first | (rw [f_X7_isAxleOut, if_neg c0_0]; done) | (rw [f_X7_isAxleOut, if_neg c0_0]; rfl) | (simp only [f_X7_isAxleOut, if_neg c0_0]; done))
def f_X7_isControlled (n : F1) (j : Nat) : Int32 := (if (f_X7_isActive n) = 0 then 0 else (if (f_X7_isAxleOut n j) = 0 then 1 else 0))
set_option maxHeartbeats 4000000 in
set_option maxRecDepth 100000 in
theorem c_X7_isControlled (l : Launch) (D : va_G) (ty : Nat → ClassId) (o : Nat) (a : Nat) (b : Nat) (c_ : Nat) (g : F1) (hs : Int64) (n : F1) (j : Nat) (hj : j < 4) : MC l D ty yX7_isControlled cX7_isControlled 2 (some .boolean) 4 [.ref o, .int (nI j)] [(o, moE g hs a b c_), (a, arE ty 253 n)] (some (.int (f_X7_isControlled n j))) [(o, moE g hs a b c_), (a, arE ty 253 n)] := by
  refine mc_z (by decide +kernel) (Nat.le_of_ble_eq_true rfl) (and_b (by unfold f_X7_isControlled; (repeat' split) <;> first | exact isB0 | exact isB1)) ?_
  intro p e s m args below meth c A Q ls C hK hA X hret hl
  have hx := C.1
  have hb := C.2.1
  have hl : lv_has ls 2 [(0, .ref o), (1, .int (nI j))] := hl
  have X : Wd D A s.heap [(o, moE g hs a b c_), (a, arE ty 253 n)] s.heap [] := X
  refine lv_aload_n hx hb dX7_isControlled_0 rfl (lv_at hl 0 rfl) ?_
  refine s_cV0i C hK hA X (c_X7_isActive l D ty o a b c_ g hs n) [0, 1] (pk_c rfl (pk_c rfl pk_n)) rfl ml_X7_isActive wm_X7_83 (q0 := 0) rfl rfl rfl ⟨Nat.le_of_ble_eq_true rfl, Nat.le_of_ble_eq_true rfl⟩ ⟨Nat.zero_le _, Nat.zero_le _⟩ hl.1 rfl (Nat.le_of_ble_eq_true rfl) dX7_isControlled_1 (fun H locs X => ?_)
  refine lv_if_eq (tgt := 19) hx hb dX7_isControlled_4 (by decide) (fun c0_0 => ?_) (fun c0_0 => ?_)
  · refine lv_iconst (v := 0) hx hb dX7_isControlled_19 (by decide) ?_
    exact hret _ _ _ _ _ _ dX7_isControlled_20 X rfl (by first | (rw [f_X7_isControlled, if_pos c0_0]; done) | (rw [f_X7_isControlled, if_pos c0_0]; rfl) | (simp only [f_X7_isControlled, if_pos c0_0]; done))
  · refine lv_aload_n hx hb dX7_isControlled_7 rfl (lv_at hl 0 rfl) ?_
    refine lv_iload_n hx hb dX7_isControlled_8 rfl (lv_at hl 1 rfl) ?_
    refine s_cV0i C hK hA X (c_X7_isAxleOut l D ty o a b c_ g hs n j (by assumption)) [0, 1] (pk_c rfl (pk_c rfl pk_n)) rfl ml_X7_isAxleOut wm_X7_87 (q0 := 0) rfl rfl rfl ⟨Nat.le_of_ble_eq_true rfl, Nat.le_of_ble_eq_true rfl⟩ ⟨Nat.zero_le _, Nat.zero_le _⟩ hl.1 rfl (Nat.le_of_ble_eq_true rfl) dX7_isControlled_9 (fun H locs X => ?_)
    refine lv_if_ne (tgt := 19) hx hb dX7_isControlled_12 (by decide) (fun c1_1 => ?_) (fun c1_1 => ?_)
    · refine lv_iconst (v := 0) hx hb dX7_isControlled_19 (by decide) ?_
      exact hret _ _ _ _ _ _ dX7_isControlled_20 X rfl (by first | (rw [f_X7_isControlled, if_neg c0_0, if_neg c1_1]; done) | (rw [f_X7_isControlled, if_neg c0_0, if_neg c1_1]; rfl) | (simp only [f_X7_isControlled, if_neg c0_0, if_neg c1_1]; done))
    · refine lv_iconst (v := 1) hx hb dX7_isControlled_15 (by decide) ?_
      refine lv_goto (tgt := 20) hx hb dX7_isControlled_16 (by decide) ?_
      exact hret _ _ _ _ _ _ dX7_isControlled_20 X rfl (by first | (rw [f_X7_isControlled, if_neg c0_0, if_pos c1_1]; done) | (rw [f_X7_isControlled, if_neg c0_0, if_pos c1_1]; rfl) | (simp only [f_X7_isControlled, if_neg c0_0, if_pos c1_1]; done))
def f_X7_measured (n : F1) (j : Nat) : Int32 := (n (10 + 16 * j + (11 + kN j n - 1)))
theorem meas_ix (j k : Nat) : 10 + 16 * nI j + (11 + nI k - 1) = nI (10 + 16 * j + (11 + k - 1)) := by
  rw [show 11 + nI k - 1 = nI (11 + k - 1) from by rw [show (11 : Int32) = nI 11 from rfl, nI_add]; exact pk_sub (b := 1) (by omega)]; exact atN j _
set_option maxHeartbeats 4000000 in
set_option maxRecDepth 100000 in
theorem c_X7_measured (l : Launch) (D : va_G) (ty : Nat → ClassId) (o : Nat) (a : Nat) (b : Nat) (c_ : Nat) (g : F1) (hs : Int64) (n : F1) (j : Nat) (hM : MOK n) (hj : j < 4) : MC l D ty yX7_measured cX7_measured 2 (some .int) 2 [.ref o, .int (nI j)] [(o, moE g hs a b c_), (a, arE ty 253 n)] (some (.int (f_X7_measured n j))) [(o, moE g hs a b c_), (a, arE ty 253 n)] := by
  refine mc_i (by decide +kernel) (Nat.le_of_ble_eq_true rfl) ?_
  intro p e s m args below meth c A Q ls C hK hA X hret hl
  have hx := C.1
  have hb := C.2.1
  have hl : lv_has ls 2 [(0, .ref o), (1, .int (nI j))] := hl
  have X : Wd D A s.heap [(o, moE g hs a b c_), (a, arE ty 253 n)] s.heap [] := X
  obtain ⟨hk, hk5⟩ := kN_eq hM hj
  refine lv_aload_n hx hb dX7_measured_0 rfl (lv_at hl 0 rfl) ?_
  refine lv_iload_n hx hb dX7_measured_1 rfl (lv_at hl 1 rfl) ?_
  refine lv_bipush (v := 11) hx hb dX7_measured_2 (by decide) ?_
  refine lv_aload_n hx hb dX7_measured_4 rfl (lv_at hl 0 rfl) ?_
  refine lv_iload_n hx hb dX7_measured_5 rfl (lv_at hl 1 rfl) ?_
  refine lv_bipush (v := 10) hx hb dX7_measured_6 (by decide) ?_
  refine s_cV0i C hK hA X (c_X7_get l D ty o a b c_ g hs n (nI j) 10 (10 + 16 * j + 10) (atN j 10) (by omega)) [0, 1] (pk_c rfl (pk_c rfl pk_n)) rfl ml_X7_get wm_X7_45 (q0 := 0) rfl rfl rfl ⟨Nat.le_of_ble_eq_true rfl, Nat.le_of_ble_eq_true rfl⟩ ⟨Nat.zero_le _, Nat.zero_le _⟩ hl.1 rfl (Nat.le_of_ble_eq_true rfl) dX7_measured_8 (fun H locs X => ?_)
  refine s_eqi (y := nI (kN j n)) (hk) ?_
  refine lv_iadd hx hb dX7_measured_11 ?_
  refine lv_iconst (v := 1) hx hb dX7_measured_12 (by decide) ?_
  refine lv_isub hx hb dX7_measured_13 ?_
  refine s_cV0i C hK hA X (c_X7_get l D ty o a b c_ g hs n (nI j) ((11 + (nI (kN j n))) - 1) (10 + 16 * j + (11 + kN j n - 1)) (meas_ix j (kN j n)) (by omega)) [0, 1] (pk_c rfl (pk_c rfl pk_n)) rfl ml_X7_get wm_X7_45 (q0 := 0) rfl rfl rfl ⟨Nat.le_of_ble_eq_true rfl, Nat.le_of_ble_eq_true rfl⟩ ⟨Nat.zero_le _, Nat.zero_le _⟩ hl.1 rfl (Nat.le_of_ble_eq_true rfl) dX7_measured_14 (fun H locs X => ?_)
  exact hret _ _ _ _ _ _ dX7_measured_17 X rfl (by first | (rw [f_X7_measured]; done) | (rw [f_X7_measured]; rfl) | (simp only [f_X7_measured]; done))
def f_X7_acceleration (n : F1) (j : Nat) : Int32 := (if 2 ≤ (n (10 + 16 * j + 10)) then (f_X7_floor (((f_X7_measured n j) - (n (10 + 16 * j + 11))).toInt64) (((n (10 + 16 * j + 10)) - 1).toInt64)) else 0)
theorem i2l_ne {x : Int32} (h : ¬ x = 0) : ¬ x.toInt64 = 0 := fun e => h (by
  have := congrArg Int64.toInt e
  rw [Int32.toInt_toInt64] at this
  exact Int32.toInt_inj.mp this)
theorem acc_ne {x : Int32} {k : Nat} (hk : x = nI k) (h5 : k ≤ 5) (c : 2 ≤ x) : ¬ (x - 1).toInt64 = 0 := by
  have h2 : 2 ≤ k := (nI_leI (a := 2) (by decide) (by omega)).mp (by rw [← hk]; exact c)
  apply i2l_ne
  rw [hk, show nI k - 1 = nI (k - 1) from pk_sub (b := 1) (by omega)]
  exact nI_ne0 (by omega) (by omega)
theorem est_ne {x : Int32} (c : ¬ x = 0) : ¬ x.toInt64 = 0 := i2l_ne c
set_option maxHeartbeats 4000000 in
set_option maxRecDepth 100000 in
theorem c_X7_acceleration (l : Launch) (D : va_G) (ty : Nat → ClassId) (o : Nat) (a : Nat) (b : Nat) (c_ : Nat) (g : F1) (hs : Int64) (n : F1) (j : Nat) (hM : MOK n) (hj : j < 4) : MC l D ty yX7_acceleration cX7_acceleration 3 (some .int) 3 [.ref o, .int (nI j)] [(o, moE g hs a b c_), (a, arE ty 253 n)] (some (.int (f_X7_acceleration n j))) [(o, moE g hs a b c_), (a, arE ty 253 n)] := by
  refine mc_i (by decide +kernel) (Nat.le_of_ble_eq_true rfl) ?_
  intro p e s m args below meth c A Q ls C hK hA X hret hl
  have hx := C.1
  have hb := C.2.1
  have hl : lv_has ls 3 [(0, .ref o), (1, .int (nI j))] := hl
  have X : Wd D A s.heap [(o, moE g hs a b c_), (a, arE ty 253 n)] s.heap [] := X
  obtain ⟨hk, hk5⟩ := kN_eq hM hj
  refine lv_aload_n hx hb dX7_acceleration_0 rfl (lv_at hl 0 rfl) ?_
  refine lv_iload_n hx hb dX7_acceleration_1 rfl (lv_at hl 1 rfl) ?_
  refine lv_bipush (v := 10) hx hb dX7_acceleration_2 (by decide) ?_
  refine s_cV0i C hK hA X (c_X7_get l D ty o a b c_ g hs n (nI j) 10 (10 + 16 * j + 10) (atN j 10) (by omega)) [0, 1] (pk_c rfl (pk_c rfl pk_n)) rfl ml_X7_get wm_X7_45 (q0 := 0) rfl rfl rfl ⟨Nat.le_of_ble_eq_true rfl, Nat.le_of_ble_eq_true rfl⟩ ⟨Nat.zero_le _, Nat.zero_le _⟩ hl.1 rfl (Nat.le_of_ble_eq_true rfl) dX7_acceleration_4 (fun H locs X => ?_)
  refine lv_istore_n (lv' := [(2, .int (n (10 + 16 * j + 10))), (0, .ref o), (1, .int (nI j))]) hx hb dX7_acceleration_7 rfl hl (by decide) rfl (fun ls hl => ?_)
  refine lv_iload_n hx hb dX7_acceleration_8 rfl (lv_at hl 0 rfl) ?_
  refine lv_iconst (v := 2) hx hb dX7_acceleration_9 (by decide) ?_
  refine lv_icmp_ge (tgt := 17) hx hb dX7_acceleration_10 (by decide) (fun c0_0 => ?_) (fun c0_0 => ?_)
  · refine lv_aload_n hx hb dX7_acceleration_17 rfl (lv_at hl 1 rfl) ?_
    refine lv_iload_n hx hb dX7_acceleration_18 rfl (lv_at hl 2 rfl) ?_
    refine s_cV0i C hK hA X (c_X7_measured l D ty o a b c_ g hs n j hM (by assumption)) [0, 1] (pk_c rfl (pk_c rfl pk_n)) rfl ml_X7_measured wm_X7_63 (q0 := 0) rfl rfl rfl ⟨Nat.le_of_ble_eq_true rfl, Nat.le_of_ble_eq_true rfl⟩ ⟨Nat.zero_le _, Nat.zero_le _⟩ hl.1 rfl (Nat.le_of_ble_eq_true rfl) dX7_acceleration_19 (fun H locs X => ?_)
    refine lv_aload_n hx hb dX7_acceleration_22 rfl (lv_at hl 1 rfl) ?_
    refine lv_iload_n hx hb dX7_acceleration_23 rfl (lv_at hl 2 rfl) ?_
    refine lv_bipush (v := 11) hx hb dX7_acceleration_24 (by decide) ?_
    refine s_cV0i C hK hA X (c_X7_get l D ty o a b c_ g hs n (nI j) 11 (10 + 16 * j + 11) (atN j 11) (by omega)) [0, 1] (pk_c rfl (pk_c rfl pk_n)) rfl ml_X7_get wm_X7_45 (q0 := 0) rfl rfl rfl ⟨Nat.le_of_ble_eq_true rfl, Nat.le_of_ble_eq_true rfl⟩ ⟨Nat.zero_le _, Nat.zero_le _⟩ hl.1 rfl (Nat.le_of_ble_eq_true rfl) dX7_acceleration_26 (fun H locs X => ?_)
    refine lv_isub hx hb dX7_acceleration_29 ?_
    refine lv_i2l hx hb dX7_acceleration_30 rfl ?_
    refine lv_iload_n hx hb dX7_acceleration_31 rfl (lv_at hl 0 rfl) ?_
    refine lv_iconst (v := 1) hx hb dX7_acceleration_32 (by decide) ?_
    refine lv_isub hx hb dX7_acceleration_33 ?_
    refine lv_i2l hx hb dX7_acceleration_34 rfl ?_
    refine s_cS0i C hK hA X (c_X7_floor l D ty (((f_X7_measured n j) - (n (10 + 16 * j + 11))).toInt64) (((n (10 + 16 * j + 10)) - 1).toInt64) (acc_ne hk hk5 c0_0)) [] pk_n rfl sl_X7_floor wm_X7_66 ⟨Nat.le_of_ble_eq_true rfl, Nat.le_of_ble_eq_true rfl⟩ ⟨Nat.zero_le _, Nat.zero_le _⟩ hl.1 rfl (Nat.le_of_ble_eq_true rfl) dX7_acceleration_35 (fun H locs X => ?_)
    exact hret _ _ _ _ _ _ dX7_acceleration_38 X rfl (by first | (rw [f_X7_acceleration, if_pos c0_0]; done) | (rw [f_X7_acceleration, if_pos c0_0]; rfl) | (simp only [f_X7_acceleration, if_pos c0_0]; done))
  · refine lv_iconst (v := 0) hx hb dX7_acceleration_13 (by decide) ?_
    refine lv_goto (tgt := 38) hx hb dX7_acceleration_14 (by decide) ?_
    exact hret _ _ _ _ _ _ dX7_acceleration_38 X rfl (by first | (rw [f_X7_acceleration, if_neg c0_0]; done) | (rw [f_X7_acceleration, if_neg c0_0]; rfl) | (simp only [f_X7_acceleration, if_neg c0_0]; done))
def f_X7_estimated (n : F1) (j : Nat) : Int32 := (if (n (10 + 16 * j + 10)) = 0 then 0 else (if (n 4) = 0 then 0 else (if (f_X7_measured n j) < (n 4) then (((1000 * (((n 4) - (f_X7_measured n j)).toInt64)) / ((n 4).toInt64)).toInt32) else 0)))
set_option maxHeartbeats 4000000 in
set_option maxRecDepth 100000 in
theorem c_X7_estimated (l : Launch) (D : va_G) (ty : Nat → ClassId) (o : Nat) (a : Nat) (b : Nat) (c_ : Nat) (g : F1) (hs : Int64) (n : F1) (j : Nat) (hM : MOK n) (hj : j < 4) : MC l D ty yX7_estimated cX7_estimated 2 (some .int) 3 [.ref o, .int (nI j)] [(o, moE g hs a b c_), (a, arE ty 253 n)] (some (.int (f_X7_estimated n j))) [(o, moE g hs a b c_), (a, arE ty 253 n)] := by
  refine mc_i (by decide +kernel) (Nat.le_of_ble_eq_true rfl) ?_
  intro p e s m args below meth c A Q ls C hK hA X hret hl
  have hx := C.1
  have hb := C.2.1
  have hl : lv_has ls 2 [(0, .ref o), (1, .int (nI j))] := hl
  have X : Wd D A s.heap [(o, moE g hs a b c_), (a, arE ty 253 n)] s.heap [] := X
  refine lv_aload_n hx hb dX7_estimated_0 rfl (lv_at hl 0 rfl) ?_
  refine lv_iload_n hx hb dX7_estimated_1 rfl (lv_at hl 1 rfl) ?_
  refine lv_bipush (v := 10) hx hb dX7_estimated_2 (by decide) ?_
  refine s_cV0i C hK hA X (c_X7_get l D ty o a b c_ g hs n (nI j) 10 (10 + 16 * j + 10) (atN j 10) (by omega)) [0, 1] (pk_c rfl (pk_c rfl pk_n)) rfl ml_X7_get wm_X7_45 (q0 := 0) rfl rfl rfl ⟨Nat.le_of_ble_eq_true rfl, Nat.le_of_ble_eq_true rfl⟩ ⟨Nat.zero_le _, Nat.zero_le _⟩ hl.1 rfl (Nat.le_of_ble_eq_true rfl) dX7_estimated_4 (fun H locs X => ?_)
  refine lv_if_eq (tgt := 33) hx hb dX7_estimated_7 (by decide) (fun c0_0 => ?_) (fun c0_0 => ?_)
  · refine lv_iconst (v := 0) hx hb dX7_estimated_33 (by decide) ?_
    exact hret _ _ _ _ _ _ dX7_estimated_34 X rfl (by first | (rw [f_X7_estimated, if_pos c0_0]; done) | (rw [f_X7_estimated, if_pos c0_0]; rfl) | (simp only [f_X7_estimated, if_pos c0_0]; done))
  · refine lv_aload_n hx hb dX7_estimated_10 rfl (lv_at hl 0 rfl) ?_
    refine get_mo_0 C hK X 0 rfl fl_X7_7 dX7_estimated_11 ?_
    refine lv_iconst (v := 4) hx hb dX7_estimated_14 (by decide) ?_
    refine s_ialN C hK X 1 4 rfl rfl (by decide) (by decide) dX7_estimated_15 ?_
    refine lv_if_eq (tgt := 33) hx hb dX7_estimated_16 (by decide) (fun c1_1 => ?_) (fun c1_1 => ?_)
    · refine lv_iconst (v := 0) hx hb dX7_estimated_33 (by decide) ?_
      exact hret _ _ _ _ _ _ dX7_estimated_34 X rfl (by first | (rw [f_X7_estimated, if_neg c0_0, if_pos c1_1]; done) | (rw [f_X7_estimated, if_neg c0_0, if_pos c1_1]; rfl) | (simp only [f_X7_estimated, if_neg c0_0, if_pos c1_1]; done))
    · refine lv_aload_n hx hb dX7_estimated_19 rfl (lv_at hl 0 rfl) ?_
      refine lv_iload_n hx hb dX7_estimated_20 rfl (lv_at hl 1 rfl) ?_
      refine s_cV0i C hK hA X (c_X7_measured l D ty o a b c_ g hs n j hM (by assumption)) [0, 1] (pk_c rfl (pk_c rfl pk_n)) rfl ml_X7_measured wm_X7_63 (q0 := 0) rfl rfl rfl ⟨Nat.le_of_ble_eq_true rfl, Nat.le_of_ble_eq_true rfl⟩ ⟨Nat.zero_le _, Nat.zero_le _⟩ hl.1 rfl (Nat.le_of_ble_eq_true rfl) dX7_estimated_21 (fun H locs X => ?_)
      refine lv_aload_n hx hb dX7_estimated_24 rfl (lv_at hl 0 rfl) ?_
      refine get_mo_0 C hK X 0 rfl fl_X7_7 dX7_estimated_25 ?_
      refine lv_iconst (v := 4) hx hb dX7_estimated_28 (by decide) ?_
      refine s_ialN C hK X 1 4 rfl rfl (by decide) (by decide) dX7_estimated_29 ?_
      refine lv_icmp_lt (tgt := 35) hx hb dX7_estimated_30 (by decide) (fun c2_2 => ?_) (fun c2_2 => ?_)
      · refine lv_ldc2 hx hb C.2.2.2.1 (C.2.2.2.2 _ wk_X7_43) dX7_estimated_35 ?_
        refine lv_aload_n hx hb dX7_estimated_38 rfl (lv_at hl 0 rfl) ?_
        refine get_mo_0 C hK X 0 rfl fl_X7_7 dX7_estimated_39 ?_
        refine lv_iconst (v := 4) hx hb dX7_estimated_42 (by decide) ?_
        refine s_ialN C hK X 1 4 rfl rfl (by decide) (by decide) dX7_estimated_43 ?_
        refine lv_aload_n hx hb dX7_estimated_44 rfl (lv_at hl 0 rfl) ?_
        refine lv_iload_n hx hb dX7_estimated_45 rfl (lv_at hl 1 rfl) ?_
        refine s_cV0i C hK hA X (c_X7_measured l D ty o a b c_ g hs n j hM (by assumption)) [0, 1] (pk_c rfl (pk_c rfl pk_n)) rfl ml_X7_measured wm_X7_63 (q0 := 0) rfl rfl rfl ⟨Nat.le_of_ble_eq_true rfl, Nat.le_of_ble_eq_true rfl⟩ ⟨Nat.zero_le _, Nat.zero_le _⟩ hl.1 rfl (Nat.le_of_ble_eq_true rfl) dX7_estimated_46 (fun H locs X => ?_)
        refine lv_isub hx hb dX7_estimated_49 ?_
        refine lv_i2l hx hb dX7_estimated_50 rfl ?_
        refine lv_lmul hx hb dX7_estimated_51 ?_
        refine lv_aload_n hx hb dX7_estimated_52 rfl (lv_at hl 0 rfl) ?_
        refine get_mo_0 C hK X 0 rfl fl_X7_7 dX7_estimated_53 ?_
        refine lv_iconst (v := 4) hx hb dX7_estimated_56 (by decide) ?_
        refine s_ialN C hK X 1 4 rfl rfl (by decide) (by decide) dX7_estimated_57 ?_
        refine lv_i2l hx hb dX7_estimated_58 rfl ?_
        refine lv_ldiv hx hb dX7_estimated_59 (est_ne c1_1) ?_
        refine lv_l2i hx hb dX7_estimated_60 rfl ?_
        exact hret _ _ _ _ _ _ dX7_estimated_61 X rfl (by first | (rw [f_X7_estimated, if_neg c0_0, if_neg c1_1, if_pos c2_2]; done) | (rw [f_X7_estimated, if_neg c0_0, if_neg c1_1, if_pos c2_2]; rfl) | (simp only [f_X7_estimated, if_neg c0_0, if_neg c1_1, if_pos c2_2]; done))
      · refine lv_iconst (v := 0) hx hb dX7_estimated_33 (by decide) ?_
        exact hret _ _ _ _ _ _ dX7_estimated_34 X rfl (by first | (rw [f_X7_estimated, if_neg c0_0, if_neg c1_1, if_neg c2_2]; done) | (rw [f_X7_estimated, if_neg c0_0, if_neg c1_1, if_neg c2_2]; rfl) | (simp only [f_X7_estimated, if_neg c0_0, if_neg c1_1, if_neg c2_2]; done))
def f_X7_slipOf (n : F1) (j : Nat) : Int32 := (if (n 0) = 0 then 0 else (((1000 * (((n 0) - (n (10 + 16 * j + 0))).toInt64)) / ((n 0).toInt64)).toInt32))
set_option maxHeartbeats 4000000 in
set_option maxRecDepth 100000 in
theorem c_X7_slipOf (l : Launch) (D : va_G) (ty : Nat → ClassId) (o : Nat) (a : Nat) (b : Nat) (c_ : Nat) (g : F1) (hs : Int64) (n : F1) (j : Nat) (hj : j < 4) : MC l D ty yX7_slipOf cX7_slipOf 2 (some .int) 2 [.ref o, .int (nI j)] [(o, moE g hs a b c_), (a, arE ty 253 n)] (some (.int (f_X7_slipOf n j))) [(o, moE g hs a b c_), (a, arE ty 253 n)] := by
  refine mc_i (by decide +kernel) (Nat.le_of_ble_eq_true rfl) ?_
  intro p e s m args below meth c A Q ls C hK hA X hret hl
  have hx := C.1
  have hb := C.2.1
  have hl : lv_has ls 2 [(0, .ref o), (1, .int (nI j))] := hl
  have X : Wd D A s.heap [(o, moE g hs a b c_), (a, arE ty 253 n)] s.heap [] := X
  refine lv_aload_n hx hb dX7_slipOf_0 rfl (lv_at hl 0 rfl) ?_
  refine get_mo_0 C hK X 0 rfl fl_X7_7 dX7_slipOf_1 ?_
  refine lv_iconst (v := 0) hx hb dX7_slipOf_4 (by decide) ?_
  refine s_ialN C hK X 1 0 rfl rfl (by decide) (by decide) dX7_slipOf_5 ?_
  refine lv_if_ne (tgt := 13) hx hb dX7_slipOf_6 (by decide) (fun c0_0 => ?_) (fun c0_0 => ?_)
  · refine lv_ldc2 hx hb C.2.2.2.1 (C.2.2.2.2 _ wk_X7_43) dX7_slipOf_13 ?_
    refine lv_aload_n hx hb dX7_slipOf_16 rfl (lv_at hl 0 rfl) ?_
    refine get_mo_0 C hK X 0 rfl fl_X7_7 dX7_slipOf_17 ?_
    refine lv_iconst (v := 0) hx hb dX7_slipOf_20 (by decide) ?_
    refine s_ialN C hK X 1 0 rfl rfl (by decide) (by decide) dX7_slipOf_21 ?_
    refine lv_aload_n hx hb dX7_slipOf_22 rfl (lv_at hl 0 rfl) ?_
    refine lv_iload_n hx hb dX7_slipOf_23 rfl (lv_at hl 1 rfl) ?_
    refine lv_iconst (v := 0) hx hb dX7_slipOf_24 (by decide) ?_
    refine s_cV0i C hK hA X (c_X7_get l D ty o a b c_ g hs n (nI j) 0 (10 + 16 * j + 0) (atN j 0) (by omega)) [0, 1] (pk_c rfl (pk_c rfl pk_n)) rfl ml_X7_get wm_X7_45 (q0 := 0) rfl rfl rfl ⟨Nat.le_of_ble_eq_true rfl, Nat.le_of_ble_eq_true rfl⟩ ⟨Nat.zero_le _, Nat.zero_le _⟩ hl.1 rfl (Nat.le_of_ble_eq_true rfl) dX7_slipOf_25 (fun H locs X => ?_)
    refine lv_isub hx hb dX7_slipOf_28 ?_
    refine lv_i2l hx hb dX7_slipOf_29 rfl ?_
    refine lv_lmul hx hb dX7_slipOf_30 ?_
    refine lv_aload_n hx hb dX7_slipOf_31 rfl (lv_at hl 0 rfl) ?_
    refine get_mo_0 C hK X 0 rfl fl_X7_7 dX7_slipOf_32 ?_
    refine lv_iconst (v := 0) hx hb dX7_slipOf_35 (by decide) ?_
    refine s_ialN C hK X 1 0 rfl rfl (by decide) (by decide) dX7_slipOf_36 ?_
    refine lv_i2l hx hb dX7_slipOf_37 rfl ?_
    refine lv_ldiv hx hb dX7_slipOf_38 (est_ne c0_0) ?_
    refine lv_l2i hx hb dX7_slipOf_39 rfl ?_
    exact hret _ _ _ _ _ _ dX7_slipOf_40 X rfl (by first | (rw [f_X7_slipOf, if_neg c0_0]; done) | (rw [f_X7_slipOf, if_neg c0_0]; rfl) | (simp only [f_X7_slipOf, if_neg c0_0]; done))
  · refine lv_iconst (v := 0) hx hb dX7_slipOf_9 (by decide) ?_
    refine lv_goto (tgt := 40) hx hb dX7_slipOf_10 (by decide) ?_
    exact hret _ _ _ _ _ _ dX7_slipOf_40 X rfl (by first | (rw [f_X7_slipOf, if_pos c0_0]; done) | (rw [f_X7_slipOf, if_pos c0_0]; rfl) | (simp only [f_X7_slipOf, if_pos c0_0]; done))
def v_X7_nextOf_1 (n : F1) (j : Nat) : Int32 := (if (f_X7_estimated n j) ≤ 200 then 0 else (if (-30) ≤ (f_X7_acceleration n j) then 0 else 1))
def f_X7_nextOf (n : F1) (j : Nat) : Int32 := (if (f_X7_isControlled n j) = 0 then 0 else (if (n (10 + 16 * j + 2)) = 0 then (if (v_X7_nextOf_1 n j) = 0 then (if (f_X7_estimated n j) ≤ 100 then 0 else (if (-60) ≤ (f_X7_acceleration n j) then 0 else 1)) else 2) else (if (n (10 + 16 * j + 2)) = 1 then (if (v_X7_nextOf_1 n j) = 0 then (if 0 ≤ (f_X7_acceleration n j) then 4 else (if 60 < (f_X7_estimated n j) then 1 else 4)) else 2) else (if (n (10 + 16 * j + 2)) = 2 then (if 10 < (f_X7_acceleration n j) then 3 else (if 60 < (f_X7_estimated n j) then 2 else 3)) else (if (n (10 + 16 * j + 2)) = 3 then (if (f_X7_estimated n j) ≤ 60 then 4 else (if 10 < (f_X7_acceleration n j) then (if (v_X7_nextOf_1 n j) = 0 then 3 else 2) else (if 150 < (f_X7_estimated n j) then (if (v_X7_nextOf_1 n j) = 0 then 3 else 2) else 4))) else (if (v_X7_nextOf_1 n j) = 0 then (if (n (10 + 16 * j + 1)) < (n 3) then 4 else 0) else 2))))))
set_option maxHeartbeats 4000000 in
set_option maxRecDepth 100000 in
theorem c_X7_nextOf (l : Launch) (D : va_G) (ty : Nat → ClassId) (o : Nat) (a : Nat) (b : Nat) (c_ : Nat) (g : F1) (hs : Int64) (n : F1) (j : Nat) (hM : MOK n) (hj : j < 4) : MC l D ty yX7_nextOf cX7_nextOf 5 (some .int) 5 [.ref o, .int (nI j)] [(o, moE g hs a b c_), (a, arE ty 253 n)] (some (.int (f_X7_nextOf n j))) [(o, moE g hs a b c_), (a, arE ty 253 n)] := by
  refine mc_i (by decide +kernel) (Nat.le_of_ble_eq_true rfl) ?_
  intro p e s m args below meth c A Q ls C hK hA X hret hl
  have hx := C.1
  have hb := C.2.1
  have hl : lv_has ls 5 [(0, .ref o), (1, .int (nI j))] := hl
  have X : Wd D A s.heap [(o, moE g hs a b c_), (a, arE ty 253 n)] s.heap [] := X
  refine lv_aload_n hx hb dX7_nextOf_0 rfl (lv_at hl 0 rfl) ?_
  refine lv_iload_n hx hb dX7_nextOf_1 rfl (lv_at hl 1 rfl) ?_
  refine s_cV0i C hK hA X (c_X7_isControlled l D ty o a b c_ g hs n j (by assumption)) [0, 1] (pk_c rfl (pk_c rfl pk_n)) rfl ml_X7_isControlled wm_X7_90 (q0 := 0) rfl rfl rfl ⟨Nat.le_of_ble_eq_true rfl, Nat.le_of_ble_eq_true rfl⟩ ⟨Nat.zero_le _, Nat.zero_le _⟩ hl.1 rfl (Nat.le_of_ble_eq_true rfl) dX7_nextOf_2 (fun H locs X => ?_)
  refine lv_if_ne (tgt := 10) hx hb dX7_nextOf_5 (by decide) (fun c0_0 => ?_) (fun c0_0 => ?_)
  · refine lv_aload_n hx hb dX7_nextOf_10 rfl (lv_at hl 0 rfl) ?_
    refine lv_iload_n hx hb dX7_nextOf_11 rfl (lv_at hl 1 rfl) ?_
    refine s_cV0i C hK hA X (c_X7_estimated l D ty o a b c_ g hs n j hM (by assumption)) [0, 1] (pk_c rfl (pk_c rfl pk_n)) rfl ml_X7_estimated wm_X7_93 (q0 := 0) rfl rfl rfl ⟨Nat.le_of_ble_eq_true rfl, Nat.le_of_ble_eq_true rfl⟩ ⟨Nat.zero_le _, Nat.zero_le _⟩ hl.1 rfl (Nat.le_of_ble_eq_true rfl) dX7_nextOf_12 (fun H locs X => ?_)
    refine lv_istore_n (lv' := [(2, .int (f_X7_estimated n j)), (0, .ref o), (1, .int (nI j))]) hx hb dX7_nextOf_15 rfl hl (by decide) rfl (fun ls hl => ?_)
    refine lv_aload_n hx hb dX7_nextOf_16 rfl (lv_at hl 1 rfl) ?_
    refine lv_iload_n hx hb dX7_nextOf_17 rfl (lv_at hl 2 rfl) ?_
    refine s_cV0i C hK hA X (c_X7_acceleration l D ty o a b c_ g hs n j hM (by assumption)) [0, 1] (pk_c rfl (pk_c rfl pk_n)) rfl ml_X7_acceleration wm_X7_96 (q0 := 0) rfl rfl rfl ⟨Nat.le_of_ble_eq_true rfl, Nat.le_of_ble_eq_true rfl⟩ ⟨Nat.zero_le _, Nat.zero_le _⟩ hl.1 rfl (Nat.le_of_ble_eq_true rfl) dX7_nextOf_18 (fun H locs X => ?_)
    refine lv_istore_n (lv' := [(3, .int (f_X7_acceleration n j)), (2, .int (f_X7_estimated n j)), (0, .ref o), (1, .int (nI j))]) hx hb dX7_nextOf_21 rfl hl (by decide) rfl (fun ls hl => ?_)
    refine lv_iload_n hx hb dX7_nextOf_22 rfl (lv_at hl 1 rfl) ?_
    refine lv_sipush (v := 200) hx hb dX7_nextOf_23 (by decide) ?_
    have J40_2 : ∀ (x1 : Int32) (ls : Array Slot) (H : Heap) (locs : List Loc), x1 = (v_X7_nextOf_1 n j) → lv_has ls 5 [(3, .int (f_X7_acceleration n j)), (2, .int (f_X7_estimated n j)), (0, .ref o), (1, .int (nI j))] → Wd D A s.heap [(o, moE g hs a b c_), (a, arE ty 253 n)] H locs → W p l e (rmD 5) s m args below meth c H locs 0 0 Q (F0 m 40 ls [.int x1]) := by
      intro x1 ls H locs ex1 hl X
      subst ex1
      refine lv_istore (lv' := [(4, .int (v_X7_nextOf_1 n j)), (3, .int (f_X7_acceleration n j)), (2, .int (f_X7_estimated n j)), (0, .ref o), (1, .int (nI j))]) hx hb dX7_nextOf_40 hl (by decide) rfl (fun ls hl => ?_)
      refine lv_aload_n hx hb dX7_nextOf_42 rfl (lv_at hl 3 rfl) ?_
      refine lv_iload_n hx hb dX7_nextOf_43 rfl (lv_at hl 4 rfl) ?_
      refine lv_iconst (v := 2) hx hb dX7_nextOf_44 (by decide) ?_
      refine s_cV0i C hK hA X (c_X7_get l D ty o a b c_ g hs n (nI j) 2 (10 + 16 * j + 2) (atN j 2) (by omega)) [0, 1] (pk_c rfl (pk_c rfl pk_n)) rfl ml_X7_get wm_X7_45 (q0 := 0) rfl rfl rfl ⟨Nat.le_of_ble_eq_true rfl, Nat.le_of_ble_eq_true rfl⟩ ⟨Nat.zero_le _, Nat.zero_le _⟩ hl.1 rfl (Nat.le_of_ble_eq_true rfl) dX7_nextOf_45 (fun H locs X => ?_)
      by_cases c1_1 : (n (10 + 16 * j + 2)) = 0
      · refine lv_tableIn (off := 32) (tgt := 80) hx hb dX7_nextOf_48 (by rw [c1_1]; decide) (by rw [c1_1]; decide) (by rw [c1_1]; rfl) (by decide) ?_
        refine lv_iload hx hb dX7_nextOf_80 (lv_at hl 0 rfl) ?_
        refine lv_if_eq (tgt := 89) hx hb dX7_nextOf_82 (by decide) (fun c2_2 => ?_) (fun c2_2 => ?_)
        · refine lv_iload_n hx hb dX7_nextOf_89 rfl (lv_at hl 2 rfl) ?_
          refine lv_bipush (v := 100) hx hb dX7_nextOf_90 (by decide) ?_
          refine lv_icmp_le (tgt := 105) hx hb dX7_nextOf_92 (by decide) (fun c3_3 => ?_) (fun c3_3 => ?_)
          · refine lv_iconst (v := 0) hx hb dX7_nextOf_105 (by decide) ?_
            exact hret _ _ _ _ _ _ dX7_nextOf_106 X rfl (by first | (rw [f_X7_nextOf, if_neg c0_0, if_pos c1_1, if_pos c2_2, if_pos c3_3]; done) | (rw [f_X7_nextOf, if_neg c0_0, if_pos c1_1, if_pos c2_2, if_pos c3_3]; rfl) | (simp only [f_X7_nextOf, if_neg c0_0, if_pos c1_1, if_pos c2_2, if_pos c3_3]; done))
          · refine lv_iload_n hx hb dX7_nextOf_95 rfl (lv_at hl 1 rfl) ?_
            refine lv_bipush (v := (-60)) hx hb dX7_nextOf_96 (by decide) ?_
            refine lv_icmp_ge (tgt := 105) hx hb dX7_nextOf_98 (by decide) (fun c4_4 => ?_) (fun c4_4 => ?_)
            · refine lv_iconst (v := 0) hx hb dX7_nextOf_105 (by decide) ?_
              exact hret _ _ _ _ _ _ dX7_nextOf_106 X rfl (by first | (rw [f_X7_nextOf, if_neg c0_0, if_pos c1_1, if_pos c2_2, if_neg c3_3, if_pos c4_4]; done) | (rw [f_X7_nextOf, if_neg c0_0, if_pos c1_1, if_pos c2_2, if_neg c3_3, if_pos c4_4]; rfl) | (simp only [f_X7_nextOf, if_neg c0_0, if_pos c1_1, if_pos c2_2, if_neg c3_3, if_pos c4_4]; done))
            · refine lv_iconst (v := 1) hx hb dX7_nextOf_101 (by decide) ?_
              refine lv_goto (tgt := 106) hx hb dX7_nextOf_102 (by decide) ?_
              exact hret _ _ _ _ _ _ dX7_nextOf_106 X rfl (by first | (rw [f_X7_nextOf, if_neg c0_0, if_pos c1_1, if_pos c2_2, if_neg c3_3, if_neg c4_4]; done) | (rw [f_X7_nextOf, if_neg c0_0, if_pos c1_1, if_pos c2_2, if_neg c3_3, if_neg c4_4]; rfl) | (simp only [f_X7_nextOf, if_neg c0_0, if_pos c1_1, if_pos c2_2, if_neg c3_3, if_neg c4_4]; done))
        · refine lv_iconst (v := 2) hx hb dX7_nextOf_85 (by decide) ?_
          refine lv_goto (tgt := 106) hx hb dX7_nextOf_86 (by decide) ?_
          exact hret _ _ _ _ _ _ dX7_nextOf_106 X rfl (by first | (rw [f_X7_nextOf, if_neg c0_0, if_pos c1_1, if_neg c2_2]; done) | (rw [f_X7_nextOf, if_neg c0_0, if_pos c1_1, if_neg c2_2]; rfl) | (simp only [f_X7_nextOf, if_neg c0_0, if_pos c1_1, if_neg c2_2]; done))
      · by_cases c2_2 : (n (10 + 16 * j + 2)) = 1
        · refine lv_tableIn (off := 59) (tgt := 107) hx hb dX7_nextOf_48 (by rw [c2_2]; decide) (by rw [c2_2]; decide) (by rw [c2_2]; rfl) (by decide) ?_
          refine lv_iload hx hb dX7_nextOf_107 (lv_at hl 0 rfl) ?_
          refine lv_if_eq (tgt := 116) hx hb dX7_nextOf_109 (by decide) (fun c3_3 => ?_) (fun c3_3 => ?_)
          · refine lv_iload_n hx hb dX7_nextOf_116 rfl (lv_at hl 1 rfl) ?_
            refine lv_if_ge (tgt := 126) hx hb dX7_nextOf_117 (by decide) (fun c4_4 => ?_) (fun c4_4 => ?_)
            · refine lv_iconst (v := 4) hx hb dX7_nextOf_126 (by decide) ?_
              refine lv_goto (tgt := 131) hx hb dX7_nextOf_127 (by decide) ?_
              exact hret _ _ _ _ _ _ dX7_nextOf_131 X rfl (by first | (rw [f_X7_nextOf, if_neg c0_0, if_neg c1_1, if_pos c2_2, if_pos c3_3, if_pos c4_4]; done) | (rw [f_X7_nextOf, if_neg c0_0, if_neg c1_1, if_pos c2_2, if_pos c3_3, if_pos c4_4]; rfl) | (simp only [f_X7_nextOf, if_neg c0_0, if_neg c1_1, if_pos c2_2, if_pos c3_3, if_pos c4_4]; done))
            · refine lv_iload_n hx hb dX7_nextOf_120 rfl (lv_at hl 2 rfl) ?_
              refine lv_bipush (v := 60) hx hb dX7_nextOf_121 (by decide) ?_
              refine lv_icmp_gt (tgt := 130) hx hb dX7_nextOf_123 (by decide) (fun c5_5 => ?_) (fun c5_5 => ?_)
              · refine lv_iconst (v := 1) hx hb dX7_nextOf_130 (by decide) ?_
                exact hret _ _ _ _ _ _ dX7_nextOf_131 X rfl (by first | (rw [f_X7_nextOf, if_neg c0_0, if_neg c1_1, if_pos c2_2, if_pos c3_3, if_neg c4_4, if_pos c5_5]; done) | (rw [f_X7_nextOf, if_neg c0_0, if_neg c1_1, if_pos c2_2, if_pos c3_3, if_neg c4_4, if_pos c5_5]; rfl) | (simp only [f_X7_nextOf, if_neg c0_0, if_neg c1_1, if_pos c2_2, if_pos c3_3, if_neg c4_4, if_pos c5_5]; done))
              · refine lv_iconst (v := 4) hx hb dX7_nextOf_126 (by decide) ?_
                refine lv_goto (tgt := 131) hx hb dX7_nextOf_127 (by decide) ?_
                exact hret _ _ _ _ _ _ dX7_nextOf_131 X rfl (by first | (rw [f_X7_nextOf, if_neg c0_0, if_neg c1_1, if_pos c2_2, if_pos c3_3, if_neg c4_4, if_neg c5_5]; done) | (rw [f_X7_nextOf, if_neg c0_0, if_neg c1_1, if_pos c2_2, if_pos c3_3, if_neg c4_4, if_neg c5_5]; rfl) | (simp only [f_X7_nextOf, if_neg c0_0, if_neg c1_1, if_pos c2_2, if_pos c3_3, if_neg c4_4, if_neg c5_5]; done))
          · refine lv_iconst (v := 2) hx hb dX7_nextOf_112 (by decide) ?_
            refine lv_goto (tgt := 131) hx hb dX7_nextOf_113 (by decide) ?_
            exact hret _ _ _ _ _ _ dX7_nextOf_131 X rfl (by first | (rw [f_X7_nextOf, if_neg c0_0, if_neg c1_1, if_pos c2_2, if_neg c3_3]; done) | (rw [f_X7_nextOf, if_neg c0_0, if_neg c1_1, if_pos c2_2, if_neg c3_3]; rfl) | (simp only [f_X7_nextOf, if_neg c0_0, if_neg c1_1, if_pos c2_2, if_neg c3_3]; done))
        · by_cases c3_3 : (n (10 + 16 * j + 2)) = 2
          · refine lv_tableIn (off := 84) (tgt := 132) hx hb dX7_nextOf_48 (by rw [c3_3]; decide) (by rw [c3_3]; decide) (by rw [c3_3]; rfl) (by decide) ?_
            refine lv_iload_n hx hb dX7_nextOf_132 rfl (lv_at hl 1 rfl) ?_
            refine lv_bipush (v := 10) hx hb dX7_nextOf_133 (by decide) ?_
            refine lv_icmp_gt (tgt := 144) hx hb dX7_nextOf_135 (by decide) (fun c4_4 => ?_) (fun c4_4 => ?_)
            · refine lv_iconst (v := 3) hx hb dX7_nextOf_144 (by decide) ?_
              refine lv_goto (tgt := 149) hx hb dX7_nextOf_145 (by decide) ?_
              exact hret _ _ _ _ _ _ dX7_nextOf_149 X rfl (by first | (rw [f_X7_nextOf, if_neg c0_0, if_neg c1_1, if_neg c2_2, if_pos c3_3, if_pos c4_4]; done) | (rw [f_X7_nextOf, if_neg c0_0, if_neg c1_1, if_neg c2_2, if_pos c3_3, if_pos c4_4]; rfl) | (simp only [f_X7_nextOf, if_neg c0_0, if_neg c1_1, if_neg c2_2, if_pos c3_3, if_pos c4_4]; done))
            · refine lv_iload_n hx hb dX7_nextOf_138 rfl (lv_at hl 2 rfl) ?_
              refine lv_bipush (v := 60) hx hb dX7_nextOf_139 (by decide) ?_
              refine lv_icmp_gt (tgt := 148) hx hb dX7_nextOf_141 (by decide) (fun c5_5 => ?_) (fun c5_5 => ?_)
              · refine lv_iconst (v := 2) hx hb dX7_nextOf_148 (by decide) ?_
                exact hret _ _ _ _ _ _ dX7_nextOf_149 X rfl (by first | (rw [f_X7_nextOf, if_neg c0_0, if_neg c1_1, if_neg c2_2, if_pos c3_3, if_neg c4_4, if_pos c5_5]; done) | (rw [f_X7_nextOf, if_neg c0_0, if_neg c1_1, if_neg c2_2, if_pos c3_3, if_neg c4_4, if_pos c5_5]; rfl) | (simp only [f_X7_nextOf, if_neg c0_0, if_neg c1_1, if_neg c2_2, if_pos c3_3, if_neg c4_4, if_pos c5_5]; done))
              · refine lv_iconst (v := 3) hx hb dX7_nextOf_144 (by decide) ?_
                refine lv_goto (tgt := 149) hx hb dX7_nextOf_145 (by decide) ?_
                exact hret _ _ _ _ _ _ dX7_nextOf_149 X rfl (by first | (rw [f_X7_nextOf, if_neg c0_0, if_neg c1_1, if_neg c2_2, if_pos c3_3, if_neg c4_4, if_neg c5_5]; done) | (rw [f_X7_nextOf, if_neg c0_0, if_neg c1_1, if_neg c2_2, if_pos c3_3, if_neg c4_4, if_neg c5_5]; rfl) | (simp only [f_X7_nextOf, if_neg c0_0, if_neg c1_1, if_neg c2_2, if_pos c3_3, if_neg c4_4, if_neg c5_5]; done))
          · by_cases c4_4 : (n (10 + 16 * j + 2)) = 3
            · refine lv_tableIn (off := 102) (tgt := 150) hx hb dX7_nextOf_48 (by rw [c4_4]; decide) (by rw [c4_4]; decide) (by rw [c4_4]; rfl) (by decide) ?_
              refine lv_iload_n hx hb dX7_nextOf_150 rfl (lv_at hl 2 rfl) ?_
              refine lv_bipush (v := 60) hx hb dX7_nextOf_151 (by decide) ?_
              refine lv_icmp_le (tgt := 169) hx hb dX7_nextOf_153 (by decide) (fun c5_5 => ?_) (fun c5_5 => ?_)
              · refine lv_iconst (v := 4) hx hb dX7_nextOf_169 (by decide) ?_
                refine lv_goto (tgt := 183) hx hb dX7_nextOf_170 (by decide) ?_
                exact hret _ _ _ _ _ _ dX7_nextOf_183 X rfl (by first | (rw [f_X7_nextOf, if_neg c0_0, if_neg c1_1, if_neg c2_2, if_neg c3_3, if_pos c4_4, if_pos c5_5]; done) | (rw [f_X7_nextOf, if_neg c0_0, if_neg c1_1, if_neg c2_2, if_neg c3_3, if_pos c4_4, if_pos c5_5]; rfl) | (simp only [f_X7_nextOf, if_neg c0_0, if_neg c1_1, if_neg c2_2, if_neg c3_3, if_pos c4_4, if_pos c5_5]; done))
              · refine lv_iload_n hx hb dX7_nextOf_156 rfl (lv_at hl 1 rfl) ?_
                refine lv_bipush (v := 10) hx hb dX7_nextOf_157 (by decide) ?_
                refine lv_icmp_gt (tgt := 173) hx hb dX7_nextOf_159 (by decide) (fun c6_6 => ?_) (fun c6_6 => ?_)
                · refine lv_iload hx hb dX7_nextOf_173 (lv_at hl 0 rfl) ?_
                  refine lv_if_eq (tgt := 182) hx hb dX7_nextOf_175 (by decide) (fun c7_7 => ?_) (fun c7_7 => ?_)
                  · refine lv_iconst (v := 3) hx hb dX7_nextOf_182 (by decide) ?_
                    exact hret _ _ _ _ _ _ dX7_nextOf_183 X rfl (by first | (rw [f_X7_nextOf, if_neg c0_0, if_neg c1_1, if_neg c2_2, if_neg c3_3, if_pos c4_4, if_neg c5_5, if_pos c6_6, if_pos c7_7]; done) | (rw [f_X7_nextOf, if_neg c0_0, if_neg c1_1, if_neg c2_2, if_neg c3_3, if_pos c4_4, if_neg c5_5, if_pos c6_6, if_pos c7_7]; rfl) | (simp only [f_X7_nextOf, if_neg c0_0, if_neg c1_1, if_neg c2_2, if_neg c3_3, if_pos c4_4, if_neg c5_5, if_pos c6_6, if_pos c7_7]; done))
                  · refine lv_iconst (v := 2) hx hb dX7_nextOf_178 (by decide) ?_
                    refine lv_goto (tgt := 183) hx hb dX7_nextOf_179 (by decide) ?_
                    exact hret _ _ _ _ _ _ dX7_nextOf_183 X rfl (by first | (rw [f_X7_nextOf, if_neg c0_0, if_neg c1_1, if_neg c2_2, if_neg c3_3, if_pos c4_4, if_neg c5_5, if_pos c6_6, if_neg c7_7]; done) | (rw [f_X7_nextOf, if_neg c0_0, if_neg c1_1, if_neg c2_2, if_neg c3_3, if_pos c4_4, if_neg c5_5, if_pos c6_6, if_neg c7_7]; rfl) | (simp only [f_X7_nextOf, if_neg c0_0, if_neg c1_1, if_neg c2_2, if_neg c3_3, if_pos c4_4, if_neg c5_5, if_pos c6_6, if_neg c7_7]; done))
                · refine lv_iload_n hx hb dX7_nextOf_162 rfl (lv_at hl 2 rfl) ?_
                  refine lv_sipush (v := 150) hx hb dX7_nextOf_163 (by decide) ?_
                  refine lv_icmp_gt (tgt := 173) hx hb dX7_nextOf_166 (by decide) (fun c7_7 => ?_) (fun c7_7 => ?_)
                  · refine lv_iload hx hb dX7_nextOf_173 (lv_at hl 0 rfl) ?_
                    refine lv_if_eq (tgt := 182) hx hb dX7_nextOf_175 (by decide) (fun c8_8 => ?_) (fun c8_8 => ?_)
                    · refine lv_iconst (v := 3) hx hb dX7_nextOf_182 (by decide) ?_
                      exact hret _ _ _ _ _ _ dX7_nextOf_183 X rfl (by first | (rw [f_X7_nextOf, if_neg c0_0, if_neg c1_1, if_neg c2_2, if_neg c3_3, if_pos c4_4, if_neg c5_5, if_neg c6_6, if_pos c7_7, if_pos c8_8]; done) | (rw [f_X7_nextOf, if_neg c0_0, if_neg c1_1, if_neg c2_2, if_neg c3_3, if_pos c4_4, if_neg c5_5, if_neg c6_6, if_pos c7_7, if_pos c8_8]; rfl) | (simp only [f_X7_nextOf, if_neg c0_0, if_neg c1_1, if_neg c2_2, if_neg c3_3, if_pos c4_4, if_neg c5_5, if_neg c6_6, if_pos c7_7, if_pos c8_8]; done))
                    · refine lv_iconst (v := 2) hx hb dX7_nextOf_178 (by decide) ?_
                      refine lv_goto (tgt := 183) hx hb dX7_nextOf_179 (by decide) ?_
                      exact hret _ _ _ _ _ _ dX7_nextOf_183 X rfl (by first | (rw [f_X7_nextOf, if_neg c0_0, if_neg c1_1, if_neg c2_2, if_neg c3_3, if_pos c4_4, if_neg c5_5, if_neg c6_6, if_pos c7_7, if_neg c8_8]; done) | (rw [f_X7_nextOf, if_neg c0_0, if_neg c1_1, if_neg c2_2, if_neg c3_3, if_pos c4_4, if_neg c5_5, if_neg c6_6, if_pos c7_7, if_neg c8_8]; rfl) | (simp only [f_X7_nextOf, if_neg c0_0, if_neg c1_1, if_neg c2_2, if_neg c3_3, if_pos c4_4, if_neg c5_5, if_neg c6_6, if_pos c7_7, if_neg c8_8]; done))
                  · refine lv_iconst (v := 4) hx hb dX7_nextOf_169 (by decide) ?_
                    refine lv_goto (tgt := 183) hx hb dX7_nextOf_170 (by decide) ?_
                    exact hret _ _ _ _ _ _ dX7_nextOf_183 X rfl (by first | (rw [f_X7_nextOf, if_neg c0_0, if_neg c1_1, if_neg c2_2, if_neg c3_3, if_pos c4_4, if_neg c5_5, if_neg c6_6, if_neg c7_7]; done) | (rw [f_X7_nextOf, if_neg c0_0, if_neg c1_1, if_neg c2_2, if_neg c3_3, if_pos c4_4, if_neg c5_5, if_neg c6_6, if_neg c7_7]; rfl) | (simp only [f_X7_nextOf, if_neg c0_0, if_neg c1_1, if_neg c2_2, if_neg c3_3, if_pos c4_4, if_neg c5_5, if_neg c6_6, if_neg c7_7]; done))
            · refine lv_tableOut (tgt := 184) hx hb dX7_nextOf_48 (sw_out40 c1_1 c2_2 c3_3 c4_4) (by decide) ?_
              refine lv_iload hx hb dX7_nextOf_184 (lv_at hl 0 rfl) ?_
              refine lv_if_eq (tgt := 193) hx hb dX7_nextOf_186 (by decide) (fun c5_5 => ?_) (fun c5_5 => ?_)
              · refine lv_aload_n hx hb dX7_nextOf_193 rfl (lv_at hl 3 rfl) ?_
                refine lv_iload_n hx hb dX7_nextOf_194 rfl (lv_at hl 4 rfl) ?_
                refine lv_iconst (v := 1) hx hb dX7_nextOf_195 (by decide) ?_
                refine s_cV0i C hK hA X (c_X7_get l D ty o a b c_ g hs n (nI j) 1 (10 + 16 * j + 1) (atN j 1) (by omega)) [0, 1] (pk_c rfl (pk_c rfl pk_n)) rfl ml_X7_get wm_X7_45 (q0 := 0) rfl rfl rfl ⟨Nat.le_of_ble_eq_true rfl, Nat.le_of_ble_eq_true rfl⟩ ⟨Nat.zero_le _, Nat.zero_le _⟩ hl.1 rfl (Nat.le_of_ble_eq_true rfl) dX7_nextOf_196 (fun H locs X => ?_)
                refine lv_aload_n hx hb dX7_nextOf_199 rfl (lv_at hl 3 rfl) ?_
                refine get_mo_0 C hK X 0 rfl fl_X7_7 dX7_nextOf_200 ?_
                refine lv_iconst (v := 3) hx hb dX7_nextOf_203 (by decide) ?_
                refine s_ialN C hK X 1 3 rfl rfl (by decide) (by decide) dX7_nextOf_204 ?_
                refine lv_icmp_lt (tgt := 212) hx hb dX7_nextOf_205 (by decide) (fun c6_6 => ?_) (fun c6_6 => ?_)
                · refine lv_iconst (v := 4) hx hb dX7_nextOf_212 (by decide) ?_
                  exact hret _ _ _ _ _ _ dX7_nextOf_213 X rfl (by first | (rw [f_X7_nextOf, if_neg c0_0, if_neg c1_1, if_neg c2_2, if_neg c3_3, if_neg c4_4, if_pos c5_5, if_pos c6_6]; done) | (rw [f_X7_nextOf, if_neg c0_0, if_neg c1_1, if_neg c2_2, if_neg c3_3, if_neg c4_4, if_pos c5_5, if_pos c6_6]; rfl) | (simp only [f_X7_nextOf, if_neg c0_0, if_neg c1_1, if_neg c2_2, if_neg c3_3, if_neg c4_4, if_pos c5_5, if_pos c6_6]; done))
                · refine lv_iconst (v := 0) hx hb dX7_nextOf_208 (by decide) ?_
                  refine lv_goto (tgt := 213) hx hb dX7_nextOf_209 (by decide) ?_
                  exact hret _ _ _ _ _ _ dX7_nextOf_213 X rfl (by first | (rw [f_X7_nextOf, if_neg c0_0, if_neg c1_1, if_neg c2_2, if_neg c3_3, if_neg c4_4, if_pos c5_5, if_neg c6_6]; done) | (rw [f_X7_nextOf, if_neg c0_0, if_neg c1_1, if_neg c2_2, if_neg c3_3, if_neg c4_4, if_pos c5_5, if_neg c6_6]; rfl) | (simp only [f_X7_nextOf, if_neg c0_0, if_neg c1_1, if_neg c2_2, if_neg c3_3, if_neg c4_4, if_pos c5_5, if_neg c6_6]; done))
              · refine lv_iconst (v := 2) hx hb dX7_nextOf_189 (by decide) ?_
                refine lv_goto (tgt := 213) hx hb dX7_nextOf_190 (by decide) ?_
                exact hret _ _ _ _ _ _ dX7_nextOf_213 X rfl (by first | (rw [f_X7_nextOf, if_neg c0_0, if_neg c1_1, if_neg c2_2, if_neg c3_3, if_neg c4_4, if_neg c5_5]; done) | (rw [f_X7_nextOf, if_neg c0_0, if_neg c1_1, if_neg c2_2, if_neg c3_3, if_neg c4_4, if_neg c5_5]; rfl) | (simp only [f_X7_nextOf, if_neg c0_0, if_neg c1_1, if_neg c2_2, if_neg c3_3, if_neg c4_4, if_neg c5_5]; done))
    refine lv_icmp_le (tgt := 39) hx hb dX7_nextOf_26 (by decide) (fun c1_1 => ?_) (fun c1_1 => ?_)
    · refine lv_iconst (v := 0) hx hb dX7_nextOf_39 (by decide) ?_
      exact J40_2 0 _ _ _ (by first | (rw [v_X7_nextOf_1, if_pos c1_1]; done) | (rw [v_X7_nextOf_1, if_pos c1_1]; rfl) | (simp only [v_X7_nextOf_1, if_pos c1_1]; done)) (lv_sub hl [0, 1, 2, 3] rfl) X
    · refine lv_iload_n hx hb dX7_nextOf_29 rfl (lv_at hl 0 rfl) ?_
      refine lv_bipush (v := (-30)) hx hb dX7_nextOf_30 (by decide) ?_
      refine lv_icmp_ge (tgt := 39) hx hb dX7_nextOf_32 (by decide) (fun c2_2 => ?_) (fun c2_2 => ?_)
      · refine lv_iconst (v := 0) hx hb dX7_nextOf_39 (by decide) ?_
        exact J40_2 0 _ _ _ (by first | (rw [v_X7_nextOf_1, if_neg c1_1, if_pos c2_2]; done) | (rw [v_X7_nextOf_1, if_neg c1_1, if_pos c2_2]; rfl) | (simp only [v_X7_nextOf_1, if_neg c1_1, if_pos c2_2]; done)) (lv_sub hl [0, 1, 2, 3] rfl) X
      · refine lv_iconst (v := 1) hx hb dX7_nextOf_35 (by decide) ?_
        refine lv_goto (tgt := 40) hx hb dX7_nextOf_36 (by decide) ?_
        exact J40_2 1 _ _ _ (by first | (rw [v_X7_nextOf_1, if_neg c1_1, if_neg c2_2]; done) | (rw [v_X7_nextOf_1, if_neg c1_1, if_neg c2_2]; rfl) | (simp only [v_X7_nextOf_1, if_neg c1_1, if_neg c2_2]; done)) (lv_sub hl [0, 1, 2, 3] rfl) X
  · refine lv_iconst (v := 0) hx hb dX7_nextOf_8 (by decide) ?_
    exact hret _ _ _ _ _ _ dX7_nextOf_9 X rfl (by first | (rw [f_X7_nextOf, if_pos c0_0]; done) | (rw [f_X7_nextOf, if_pos c0_0]; rfl) | (simp only [f_X7_nextOf, if_pos c0_0]; done))
