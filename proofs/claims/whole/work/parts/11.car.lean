theorem sw_out9 {x : Int32} (h0 : ¬ x = 0) (h1 : ¬ x = 1) (h2 : ¬ x = 2) (h3 : ¬ x = 3) (h4 : ¬ x = 4) (h5 : ¬ x = 5) (h6 : ¬ x = 6) (h7 : ¬ x = 7) (h8 : ¬ x = 8) : x.toInt < 0 ∨ 8 < x.toInt := by
  have := sw_out (x := x) (lo := 0) 9 (fun k hk => by rcases (show k = 0 ∨ k = 1 ∨ k = 2 ∨ k = 3 ∨ k = 4 ∨ k = 5 ∨ k = 6 ∨ k = 7 ∨ k = 8 by omega) with rfl | rfl | rfl | rfl | rfl | rfl | rfl | rfl | rfl <;> assumption)
  simpa using this
theorem sw_out11 {x : Int32} (h0 : ¬ x = 0) (h1 : ¬ x = 1) (h2 : ¬ x = 2) (h3 : ¬ x = 3) (h4 : ¬ x = 4) (h5 : ¬ x = 5) (h6 : ¬ x = 6) (h7 : ¬ x = 7) (h8 : ¬ x = 8) (h9 : ¬ x = 9) (h10 : ¬ x = 10) : x.toInt < 0 ∨ 10 < x.toInt := by
  have := sw_out (x := x) (lo := 0) 11 (fun k hk => by rcases (show k = 0 ∨ k = 1 ∨ k = 2 ∨ k = 3 ∨ k = 4 ∨ k = 5 ∨ k = 6 ∨ k = 7 ∨ k = 8 ∨ k = 9 ∨ k = 10 by omega) with rfl | rfl | rfl | rfl | rfl | rfl | rfl | rfl | rfl | rfl | rfl <;> assumption)
  simpa using this
/-- a car's state: rows 0 car (V X T D), 1 controller (R accumulator pump yaw on stayed), 2-5 wheels, 6-9 measured, 10-12 events, 13-15 road, 16-17 plan; numbers 0 first, 1 events, 2 segments, 3 planned -/
abbrev CarS : Type := (Nat → F1) × (Nat → Nat)
def CarOK (u : CarS) : Prop := kpOK (u.1 2) ∧ kpOK (u.1 3) ∧ kpOK (u.1 4) ∧ kpOK (u.1 5) ∧ lgOK (u.2 0) (u.2 1) ∧ rdOK (u.2 2) ∧ pnOK (u.2 3)
def BOK (u : CarS) : Prop := isB (u.1 1 4) ∧ isB (u.1 1 5) ∧ isB (u.1 2 7) ∧ isB (u.1 3 7) ∧ isB (u.1 4 7) ∧ isB (u.1 5 7) ∧ isB (u.1 2 9) ∧ isB (u.1 3 9) ∧ isB (u.1 4 9) ∧ isB (u.1 5 9)
def carW (ty : Nat → ClassId) (ad : Nat → Nat) (u : CarS) : va_W := [((ad 0), caE (u.1 0) (ad 1) (ad 2) (ad 11) (ad 15) (ad 19)), ((ad 1), ctE (u.1 1) (ad 2) (ad 11)), ((ad 2), waE ty (ad 3) (ad 4) (ad 5) (ad 6)), ((ad 3), whE (u.1 2) (ad 7)), ((ad 4), whE (u.1 3) (ad 8)), ((ad 5), whE (u.1 4) (ad 9)), ((ad 6), whE (u.1 5) (ad 10)), ((ad 7), arE ty 5 (u.1 6)), ((ad 8), arE ty 5 (u.1 7)), ((ad 9), arE ty 5 (u.1 8)), ((ad 10), arE ty 5 (u.1 9)), ((ad 11), loE (u.2 0) (u.2 1) (ad 12) (ad 13) (ad 14)), ((ad 12), arE ty 40 (u.1 10)), ((ad 13), arE ty 40 (u.1 11)), ((ad 14), arE ty 40 (u.1 12)), ((ad 15), roE (u.2 2) (ad 16) (ad 17) (ad 18)), ((ad 16), arE ty 12 (u.1 13)), ((ad 17), arE ty 12 (u.1 14)), ((ad 18), arE ty 12 (u.1 15)), ((ad 19), scE (u.2 3) (ad 20) (ad 21)), ((ad 20), arE ty 10 (u.1 16)), ((ad 21), arE ty 10 (u.1 17))]
def f_X0_startAt_ad0 (u : CarS) (V : Int32) : F1 := (upd (u.1 0) 0 V)
def f_X0_startAt_ad1 (u : CarS) (V : Int32) : F1 := (f_X1_startAt_h (u.1 1) V)
def f_X0_startAt_ad3 (u : CarS) (V : Int32) : F1 := (f_X1_startAt_a0 (u.1 2) V)
def f_X0_startAt_ad4 (u : CarS) (V : Int32) : F1 := (f_X1_startAt_a1 (u.1 3) V)
def f_X0_startAt_ad5 (u : CarS) (V : Int32) : F1 := (f_X1_startAt_a2 (u.1 4) V)
def f_X0_startAt_ad6 (u : CarS) (V : Int32) : F1 := (f_X1_startAt_a3 (u.1 5) V)
theorem ok_X0_startAt_ad3 (u : CarS) (V : Int32) : kpOK (f_X0_startAt_ad3 u V) := by
  (try simp only [f_X0_startAt_ad3]); exact (ok_X1_startAt_a0 (u.1 2) V)
theorem ok_X0_startAt_ad4 (u : CarS) (V : Int32) : kpOK (f_X0_startAt_ad4 u V) := by
  (try simp only [f_X0_startAt_ad4]); exact (ok_X1_startAt_a1 (u.1 3) V)
theorem ok_X0_startAt_ad5 (u : CarS) (V : Int32) : kpOK (f_X0_startAt_ad5 u V) := by
  (try simp only [f_X0_startAt_ad5]); exact (ok_X1_startAt_a2 (u.1 4) V)
theorem ok_X0_startAt_ad6 (u : CarS) (V : Int32) : kpOK (f_X0_startAt_ad6 u V) := by
  (try simp only [f_X0_startAt_ad6]); exact (ok_X1_startAt_a3 (u.1 5) V)
set_option maxHeartbeats 4000000 in
set_option maxRecDepth 100000 in
theorem c_X0_startAt (l : Launch) (D : va_G) (ty : Nat → ClassId) (ad : Nat → Nat) (u : CarS) (V : Int32) (hO : CarOK u) : MC l D ty yX0_startAt cX0_startAt 2 none 2 [.ref (ad 0), .int V] [((ad 0), caE (u.1 0) (ad 1) (ad 2) (ad 11) (ad 15) (ad 19)), ((ad 1), ctE (u.1 1) (ad 2) (ad 11)), ((ad 2), waE ty (ad 3) (ad 4) (ad 5) (ad 6)), ((ad 3), whE (u.1 2) (ad 7)), ((ad 4), whE (u.1 3) (ad 8)), ((ad 5), whE (u.1 4) (ad 9)), ((ad 6), whE (u.1 5) (ad 10))] none [((ad 0), caE (f_X0_startAt_ad0 u V) (ad 1) (ad 2) (ad 11) (ad 15) (ad 19)), ((ad 1), ctE (f_X0_startAt_ad1 u V) (ad 2) (ad 11)), ((ad 2), waE ty (ad 3) (ad 4) (ad 5) (ad 6)), ((ad 3), whE (f_X0_startAt_ad3 u V) (ad 7)), ((ad 4), whE (f_X0_startAt_ad4 u V) (ad 8)), ((ad 5), whE (f_X0_startAt_ad5 u V) (ad 9)), ((ad 6), whE (f_X0_startAt_ad6 u V) (ad 10))] := by
  refine mc_v (by decide +kernel) (Nat.le_of_ble_eq_true rfl) ?_
  intro p e s m args below meth c A Q ls C hK hA X hret hl
  have hx := C.1
  have hb := C.2.1
  have hl : lv_has ls 2 [(0, .ref (ad 0)), (1, .int V)] := hl
  have X : Wd D A s.heap [((ad 0), caE (u.1 0) (ad 1) (ad 2) (ad 11) (ad 15) (ad 19)), ((ad 1), ctE (u.1 1) (ad 2) (ad 11)), ((ad 2), waE ty (ad 3) (ad 4) (ad 5) (ad 6)), ((ad 3), whE (u.1 2) (ad 7)), ((ad 4), whE (u.1 3) (ad 8)), ((ad 5), whE (u.1 4) (ad 9)), ((ad 6), whE (u.1 5) (ad 10))] s.heap [] := X
  refine lv_aload_n hx hb dX0_startAt_0 rfl (lv_at hl 0 rfl) ?_
  refine lv_iload_n hx hb dX0_startAt_1 rfl (lv_at hl 1 rfl) ?_
  refine put_ca_5 C hK X 0 rfl pl_X0_48 dX0_startAt_2 (fun H locs X => ?_)
  have X : Wd D A s.heap [((ad 0), caE (upd (u.1 0) 0 V) (ad 1) (ad 2) (ad 11) (ad 15) (ad 19)), ((ad 1), ctE (u.1 1) (ad 2) (ad 11)), ((ad 2), waE ty (ad 3) (ad 4) (ad 5) (ad 6)), ((ad 3), whE (u.1 2) (ad 7)), ((ad 4), whE (u.1 3) (ad 8)), ((ad 5), whE (u.1 4) (ad 9)), ((ad 6), whE (u.1 5) (ad 10))] H locs := X
  refine lv_aload_n hx hb dX0_startAt_5 rfl (lv_at hl 0 rfl) ?_
  refine get_ca_0 C hK X 0 rfl fl_X0_12 dX0_startAt_6 ?_
  refine lv_iload_n hx hb dX0_startAt_9 rfl (lv_at hl 1 rfl) ?_
  refine s_cVv (ws' := [((ad 0), caE (upd (u.1 0) 0 V) (ad 1) (ad 2) (ad 11) (ad 15) (ad 19)), ((ad 1), ctE (f_X1_startAt_h (u.1 1) V) (ad 2) (ad 11)), ((ad 2), waE ty (ad 3) (ad 4) (ad 5) (ad 6)), ((ad 3), whE (f_X1_startAt_a0 (u.1 2) V) (ad 7)), ((ad 4), whE (f_X1_startAt_a1 (u.1 3) V) (ad 8)), ((ad 5), whE (f_X1_startAt_a2 (u.1 4) V) (ad 9)), ((ad 6), whE (f_X1_startAt_a3 (u.1 5) V) (ad 10))]) C hK hA X (c_X1_startAt l D ty (ad 1) (ad 2) (ad 11) (ad 3) (ad 4) (ad 5) (ad 6) (ad 7) (ad 8) (ad 9) (ad 10) (u.1 1) (u.1 2) (u.1 3) (u.1 4) (u.1 5) V) [1, 2, 3, 4, 5, 6] (pk_c rfl (pk_c rfl (pk_c rfl (pk_c rfl (pk_c rfl (pk_c rfl pk_n)))))) rfl (pk_c rfl (pk_c rfl (pk_c rfl (pk_c rfl (pk_c rfl (pk_c rfl pk_n)))))) (em_f (em_t (em_t (em_t (em_t (em_t (em_t em_n))))))) rfl ml_X1_startAt wm_X0_71 (q0 := 0) rfl rfl rfl ⟨Nat.le_of_ble_eq_true rfl, Nat.le_of_ble_eq_true rfl⟩ ⟨Nat.zero_le _, Nat.zero_le _⟩ hl.1 rfl (Nat.le_of_ble_eq_true rfl) dX0_startAt_10 (fun H locs X => ?_)
  have e_0_0 : (f_X0_startAt_ad0 u V) = (upd (u.1 0) 0 V) := by first | (rw [f_X0_startAt_ad0]; done) | (rw [f_X0_startAt_ad0]; rfl) | (simp only [f_X0_startAt_ad0]; done)
  have e_1_0 : (f_X0_startAt_ad1 u V) = (f_X1_startAt_h (u.1 1) V) := by first | (rw [f_X0_startAt_ad1]; done) | (rw [f_X0_startAt_ad1]; rfl) | (simp only [f_X0_startAt_ad1]; done)
  have e_3_0 : (f_X0_startAt_ad3 u V) = (f_X1_startAt_a0 (u.1 2) V) := by first | (rw [f_X0_startAt_ad3]; done) | (rw [f_X0_startAt_ad3]; rfl) | (simp only [f_X0_startAt_ad3]; done)
  have e_4_0 : (f_X0_startAt_ad4 u V) = (f_X1_startAt_a1 (u.1 3) V) := by first | (rw [f_X0_startAt_ad4]; done) | (rw [f_X0_startAt_ad4]; rfl) | (simp only [f_X0_startAt_ad4]; done)
  have e_5_0 : (f_X0_startAt_ad5 u V) = (f_X1_startAt_a2 (u.1 4) V) := by first | (rw [f_X0_startAt_ad5]; done) | (rw [f_X0_startAt_ad5]; rfl) | (simp only [f_X0_startAt_ad5]; done)
  have e_6_0 : (f_X0_startAt_ad6 u V) = (f_X1_startAt_a3 (u.1 5) V) := by first | (rw [f_X0_startAt_ad6]; done) | (rw [f_X0_startAt_ad6]; rfl) | (simp only [f_X0_startAt_ad6]; done)
  exact hret _ _ _ _ _ dX0_startAt_13 X (by rw [e_0_0, e_1_0, e_3_0, e_4_0, e_5_0, e_6_0])
def b_X0_startAt_u_r (u : CarS) (V : Int32) : Nat → F1
  | 0 => (f_X0_startAt_ad0 u V)
  | 1 => (f_X0_startAt_ad1 u V)
  | 2 => (f_X0_startAt_ad3 u V)
  | 3 => (f_X0_startAt_ad4 u V)
  | 4 => (f_X0_startAt_ad5 u V)
  | 5 => (f_X0_startAt_ad6 u V)
  | 6 => u.1 6
  | 7 => u.1 7
  | 8 => u.1 8
  | 9 => u.1 9
  | 10 => u.1 10
  | 11 => u.1 11
  | 12 => u.1 12
  | 13 => u.1 13
  | 14 => u.1 14
  | 15 => u.1 15
  | 16 => u.1 16
  | 17 => u.1 17
  | j => u.1 j
def b_X0_startAt_u_n (u : CarS) (V : Int32) : Nat → Nat
  | 0 => u.2 0
  | 1 => u.2 1
  | 2 => u.2 2
  | 3 => u.2 3
  | j => u.2 j
def b_X0_startAt_u (u : CarS) (V : Int32) : CarS := (b_X0_startAt_u_r u V, b_X0_startAt_u_n u V)
theorem b_X0_startAt_u_f1 (u : CarS) (V : Int32) : (b_X0_startAt_u u V).1 = b_X0_startAt_u_r u V := rfl
theorem b_X0_startAt_u_f2 (u : CarS) (V : Int32) : (b_X0_startAt_u u V).2 = b_X0_startAt_u_n u V := rfl
theorem b_X0_startAt_u_r0 (u : CarS) (V : Int32) : (b_X0_startAt_u u V).1 0 = (f_X0_startAt_ad0 u V) := by rw [b_X0_startAt_u_f1, b_X0_startAt_u_r]
theorem b_X0_startAt_u_r1 (u : CarS) (V : Int32) : (b_X0_startAt_u u V).1 1 = (f_X0_startAt_ad1 u V) := by rw [b_X0_startAt_u_f1, b_X0_startAt_u_r]
theorem b_X0_startAt_u_r2 (u : CarS) (V : Int32) : (b_X0_startAt_u u V).1 2 = (f_X0_startAt_ad3 u V) := by rw [b_X0_startAt_u_f1, b_X0_startAt_u_r]
theorem b_X0_startAt_u_r3 (u : CarS) (V : Int32) : (b_X0_startAt_u u V).1 3 = (f_X0_startAt_ad4 u V) := by rw [b_X0_startAt_u_f1, b_X0_startAt_u_r]
theorem b_X0_startAt_u_r4 (u : CarS) (V : Int32) : (b_X0_startAt_u u V).1 4 = (f_X0_startAt_ad5 u V) := by rw [b_X0_startAt_u_f1, b_X0_startAt_u_r]
theorem b_X0_startAt_u_r5 (u : CarS) (V : Int32) : (b_X0_startAt_u u V).1 5 = (f_X0_startAt_ad6 u V) := by rw [b_X0_startAt_u_f1, b_X0_startAt_u_r]
theorem b_X0_startAt_u_r6 (u : CarS) (V : Int32) : (b_X0_startAt_u u V).1 6 = u.1 6 := by rw [b_X0_startAt_u_f1, b_X0_startAt_u_r]
theorem b_X0_startAt_u_r7 (u : CarS) (V : Int32) : (b_X0_startAt_u u V).1 7 = u.1 7 := by rw [b_X0_startAt_u_f1, b_X0_startAt_u_r]
theorem b_X0_startAt_u_r8 (u : CarS) (V : Int32) : (b_X0_startAt_u u V).1 8 = u.1 8 := by rw [b_X0_startAt_u_f1, b_X0_startAt_u_r]
theorem b_X0_startAt_u_r9 (u : CarS) (V : Int32) : (b_X0_startAt_u u V).1 9 = u.1 9 := by rw [b_X0_startAt_u_f1, b_X0_startAt_u_r]
theorem b_X0_startAt_u_r10 (u : CarS) (V : Int32) : (b_X0_startAt_u u V).1 10 = u.1 10 := by rw [b_X0_startAt_u_f1, b_X0_startAt_u_r]
theorem b_X0_startAt_u_r11 (u : CarS) (V : Int32) : (b_X0_startAt_u u V).1 11 = u.1 11 := by rw [b_X0_startAt_u_f1, b_X0_startAt_u_r]
theorem b_X0_startAt_u_r12 (u : CarS) (V : Int32) : (b_X0_startAt_u u V).1 12 = u.1 12 := by rw [b_X0_startAt_u_f1, b_X0_startAt_u_r]
theorem b_X0_startAt_u_r13 (u : CarS) (V : Int32) : (b_X0_startAt_u u V).1 13 = u.1 13 := by rw [b_X0_startAt_u_f1, b_X0_startAt_u_r]
theorem b_X0_startAt_u_r14 (u : CarS) (V : Int32) : (b_X0_startAt_u u V).1 14 = u.1 14 := by rw [b_X0_startAt_u_f1, b_X0_startAt_u_r]
theorem b_X0_startAt_u_r15 (u : CarS) (V : Int32) : (b_X0_startAt_u u V).1 15 = u.1 15 := by rw [b_X0_startAt_u_f1, b_X0_startAt_u_r]
theorem b_X0_startAt_u_r16 (u : CarS) (V : Int32) : (b_X0_startAt_u u V).1 16 = u.1 16 := by rw [b_X0_startAt_u_f1, b_X0_startAt_u_r]
theorem b_X0_startAt_u_r17 (u : CarS) (V : Int32) : (b_X0_startAt_u u V).1 17 = u.1 17 := by rw [b_X0_startAt_u_f1, b_X0_startAt_u_r]
theorem b_X0_startAt_u_n0 (u : CarS) (V : Int32) : (b_X0_startAt_u u V).2 0 = u.2 0 := by rw [b_X0_startAt_u_f2, b_X0_startAt_u_n]
theorem b_X0_startAt_u_n1 (u : CarS) (V : Int32) : (b_X0_startAt_u u V).2 1 = u.2 1 := by rw [b_X0_startAt_u_f2, b_X0_startAt_u_n]
theorem b_X0_startAt_u_n2 (u : CarS) (V : Int32) : (b_X0_startAt_u u V).2 2 = u.2 2 := by rw [b_X0_startAt_u_f2, b_X0_startAt_u_n]
theorem b_X0_startAt_u_n3 (u : CarS) (V : Int32) : (b_X0_startAt_u u V).2 3 = u.2 3 := by rw [b_X0_startAt_u_f2, b_X0_startAt_u_n]
theorem okC_X0_startAt_u (ad : Nat → Nat) (u : CarS) (V : Int32) (hO : CarOK u) : CarOK (b_X0_startAt_u u V) := by
  unfold CarOK
  rw [b_X0_startAt_u_r2, b_X0_startAt_u_r3, b_X0_startAt_u_r4, b_X0_startAt_u_r5, b_X0_startAt_u_n0, b_X0_startAt_u_n1, b_X0_startAt_u_n2, b_X0_startAt_u_n3]
  exact ⟨ok_X0_startAt_ad3 u V, ok_X0_startAt_ad4 u V, ok_X0_startAt_ad5 u V, ok_X0_startAt_ad6 u V, hO.2.2.2.2.1, hO.2.2.2.2.2.1, hO.2.2.2.2.2.2⟩
set_option maxHeartbeats 4000000 in
set_option maxRecDepth 100000 in
theorem c_X0_startAtB (l : Launch) (D : va_G) (ty : Nat → ClassId) (ad : Nat → Nat) (u : CarS) (V : Int32) (hO : CarOK u) : MC l D ty yX0_startAt cX0_startAt 2 none 2 [.ref (ad 0), .int V] [((ad 0), caE (u.1 0) (ad 1) (ad 2) (ad 11) (ad 15) (ad 19)), ((ad 1), ctE (u.1 1) (ad 2) (ad 11)), ((ad 2), waE ty (ad 3) (ad 4) (ad 5) (ad 6)), ((ad 3), whE (u.1 2) (ad 7)), ((ad 4), whE (u.1 3) (ad 8)), ((ad 5), whE (u.1 4) (ad 9)), ((ad 6), whE (u.1 5) (ad 10))] none [((ad 0), caE ((b_X0_startAt_u u V).1 0) (ad 1) (ad 2) (ad 11) (ad 15) (ad 19)), ((ad 1), ctE ((b_X0_startAt_u u V).1 1) (ad 2) (ad 11)), ((ad 2), waE ty (ad 3) (ad 4) (ad 5) (ad 6)), ((ad 3), whE ((b_X0_startAt_u u V).1 2) (ad 7)), ((ad 4), whE ((b_X0_startAt_u u V).1 3) (ad 8)), ((ad 5), whE ((b_X0_startAt_u u V).1 4) (ad 9)), ((ad 6), whE ((b_X0_startAt_u u V).1 5) (ad 10))] := by
  simp only [b_X0_startAt_u_r0, b_X0_startAt_u_r1, b_X0_startAt_u_r2, b_X0_startAt_u_r3, b_X0_startAt_u_r4, b_X0_startAt_u_r5, b_X0_startAt_u_r6, b_X0_startAt_u_r7, b_X0_startAt_u_r8, b_X0_startAt_u_r9, b_X0_startAt_u_r10, b_X0_startAt_u_r11, b_X0_startAt_u_r12, b_X0_startAt_u_r13, b_X0_startAt_u_r14, b_X0_startAt_u_r15, b_X0_startAt_u_r16, b_X0_startAt_u_r17, b_X0_startAt_u_n0, b_X0_startAt_u_n1, b_X0_startAt_u_n2, b_X0_startAt_u_n3]
  exact c_X0_startAt l D ty ad u V hO
def f_X0_clear_ad0 (u : CarS) : F1 := (upd (upd (upd (upd (u.1 0) 0 0) 1 0) 2 0) 3 0)
def f_X0_clear_ad1 (u : CarS) : F1 := (f_X1_clear_h (u.1 1))
def f_X0_clear_ad3 (u : CarS) : F1 := (f_X1_clear_a0 (u.1 2))
def f_X0_clear_ad4 (u : CarS) : F1 := (f_X1_clear_a1 (u.1 3))
def f_X0_clear_ad5 (u : CarS) : F1 := (f_X1_clear_a2 (u.1 4))
def f_X0_clear_ad6 (u : CarS) : F1 := (f_X1_clear_a3 (u.1 5))
def f_X0_clear_ad16 (u : CarS) : F1 := (f_X3_clear_s0 (u.1 13))
def f_X0_clear_ad17 (u : CarS) : F1 := (f_X3_clear_l0 (u.1 14))
def f_X0_clear_ad18 (u : CarS) : F1 := (f_X3_clear_r0 (u.1 15))
theorem ok_X0_clear_ad3 (u : CarS) : kpOK (f_X0_clear_ad3 u) := by
  (try simp only [f_X0_clear_ad3]); exact (ok_X1_clear_a0 (u.1 2))
theorem ok_X0_clear_ad4 (u : CarS) : kpOK (f_X0_clear_ad4 u) := by
  (try simp only [f_X0_clear_ad4]); exact (ok_X1_clear_a1 (u.1 3))
theorem ok_X0_clear_ad5 (u : CarS) : kpOK (f_X0_clear_ad5 u) := by
  (try simp only [f_X0_clear_ad5]); exact (ok_X1_clear_a2 (u.1 4))
theorem ok_X0_clear_ad6 (u : CarS) : kpOK (f_X0_clear_ad6 u) := by
  (try simp only [f_X0_clear_ad6]); exact (ok_X1_clear_a3 (u.1 5))
theorem ok_X0_clear_ad11 : lgOK 0 0 := by
  (try simp only []); exact (ok_X1_clear_al)
theorem ok_X0_clear_ad15 : rdOK 1 := by
  (try simp only []); exact (ok_X3_clear_h)
theorem ok_X0_clear_ad19 : pnOK 0 := by
  (try simp only []); exact (ok_X4_clear_h)
set_option maxHeartbeats 4000000 in
set_option maxRecDepth 100000 in
theorem c_X0_clear (l : Launch) (D : va_G) (ty : Nat → ClassId) (ad : Nat → Nat) (u : CarS) : MC l D ty yX0_clear cX0_clear 1 none 3 [.ref (ad 0)] [((ad 0), caE (u.1 0) (ad 1) (ad 2) (ad 11) (ad 15) (ad 19)), ((ad 1), ctE (u.1 1) (ad 2) (ad 11)), ((ad 2), waE ty (ad 3) (ad 4) (ad 5) (ad 6)), ((ad 3), whE (u.1 2) (ad 7)), ((ad 4), whE (u.1 3) (ad 8)), ((ad 5), whE (u.1 4) (ad 9)), ((ad 6), whE (u.1 5) (ad 10)), ((ad 11), loE (u.2 0) (u.2 1) (ad 12) (ad 13) (ad 14)), ((ad 15), roE (u.2 2) (ad 16) (ad 17) (ad 18)), ((ad 16), arE ty 12 (u.1 13)), ((ad 17), arE ty 12 (u.1 14)), ((ad 18), arE ty 12 (u.1 15)), ((ad 19), scE (u.2 3) (ad 20) (ad 21))] none [((ad 0), caE (f_X0_clear_ad0 u) (ad 1) (ad 2) (ad 11) (ad 15) (ad 19)), ((ad 1), ctE (f_X0_clear_ad1 u) (ad 2) (ad 11)), ((ad 2), waE ty (ad 3) (ad 4) (ad 5) (ad 6)), ((ad 3), whE (f_X0_clear_ad3 u) (ad 7)), ((ad 4), whE (f_X0_clear_ad4 u) (ad 8)), ((ad 5), whE (f_X0_clear_ad5 u) (ad 9)), ((ad 6), whE (f_X0_clear_ad6 u) (ad 10)), ((ad 11), loE 0 0 (ad 12) (ad 13) (ad 14)), ((ad 15), roE 1 (ad 16) (ad 17) (ad 18)), ((ad 16), arE ty 12 (f_X0_clear_ad16 u)), ((ad 17), arE ty 12 (f_X0_clear_ad17 u)), ((ad 18), arE ty 12 (f_X0_clear_ad18 u)), ((ad 19), scE 0 (ad 20) (ad 21))] := by
  refine mc_v (by decide +kernel) (Nat.le_of_ble_eq_true rfl) ?_
  intro p e s m args below meth c A Q ls C hK hA X hret hl
  have hx := C.1
  have hb := C.2.1
  have hl : lv_has ls 1 [(0, .ref (ad 0))] := hl
  have X : Wd D A s.heap [((ad 0), caE (u.1 0) (ad 1) (ad 2) (ad 11) (ad 15) (ad 19)), ((ad 1), ctE (u.1 1) (ad 2) (ad 11)), ((ad 2), waE ty (ad 3) (ad 4) (ad 5) (ad 6)), ((ad 3), whE (u.1 2) (ad 7)), ((ad 4), whE (u.1 3) (ad 8)), ((ad 5), whE (u.1 4) (ad 9)), ((ad 6), whE (u.1 5) (ad 10)), ((ad 11), loE (u.2 0) (u.2 1) (ad 12) (ad 13) (ad 14)), ((ad 15), roE (u.2 2) (ad 16) (ad 17) (ad 18)), ((ad 16), arE ty 12 (u.1 13)), ((ad 17), arE ty 12 (u.1 14)), ((ad 18), arE ty 12 (u.1 15)), ((ad 19), scE (u.2 3) (ad 20) (ad 21))] s.heap [] := X
  refine lv_aload_n hx hb dX0_clear_0 rfl (lv_at hl 0 rfl) ?_
  refine get_ca_0 C hK X 0 rfl fl_X0_12 dX0_clear_1 ?_
  refine s_cVv (ws' := [((ad 0), caE (u.1 0) (ad 1) (ad 2) (ad 11) (ad 15) (ad 19)), ((ad 1), ctE (f_X1_clear_h (u.1 1)) (ad 2) (ad 11)), ((ad 2), waE ty (ad 3) (ad 4) (ad 5) (ad 6)), ((ad 3), whE (f_X1_clear_a0 (u.1 2)) (ad 7)), ((ad 4), whE (f_X1_clear_a1 (u.1 3)) (ad 8)), ((ad 5), whE (f_X1_clear_a2 (u.1 4)) (ad 9)), ((ad 6), whE (f_X1_clear_a3 (u.1 5)) (ad 10)), ((ad 11), loE 0 0 (ad 12) (ad 13) (ad 14)), ((ad 15), roE (u.2 2) (ad 16) (ad 17) (ad 18)), ((ad 16), arE ty 12 (u.1 13)), ((ad 17), arE ty 12 (u.1 14)), ((ad 18), arE ty 12 (u.1 15)), ((ad 19), scE (u.2 3) (ad 20) (ad 21))]) C hK hA X (c_X1_clear l D ty (ad 1) (ad 2) (ad 11) (ad 3) (ad 4) (ad 5) (ad 6) (ad 7) (ad 8) (ad 9) (ad 10) (ad 12) (ad 13) (ad 14) (u.2 0) (u.2 1) (u.1 1) (u.1 2) (u.1 3) (u.1 4) (u.1 5)) [1, 2, 3, 4, 5, 6, 7] (pk_c rfl (pk_c rfl (pk_c rfl (pk_c rfl (pk_c rfl (pk_c rfl (pk_c rfl pk_n))))))) rfl (pk_c rfl (pk_c rfl (pk_c rfl (pk_c rfl (pk_c rfl (pk_c rfl (pk_c rfl pk_n))))))) (em_f (em_t (em_t (em_t (em_t (em_t (em_t (em_t (em_f (em_f (em_f (em_f (em_f em_n))))))))))))) rfl ml_X1_clear wm_X0_45 (q0 := 0) rfl rfl rfl ⟨Nat.le_of_ble_eq_true rfl, Nat.le_of_ble_eq_true rfl⟩ ⟨Nat.zero_le _, Nat.zero_le _⟩ hl.1 rfl (Nat.le_of_ble_eq_true rfl) dX0_clear_4 (fun H locs X => ?_)
  refine lv_aload_n hx hb dX0_clear_7 rfl (lv_at hl 0 rfl) ?_
  refine get_ca_3 C hK X 0 rfl fl_X0_31 dX0_clear_8 ?_
  refine s_cVv (ws' := [((ad 0), caE (u.1 0) (ad 1) (ad 2) (ad 11) (ad 15) (ad 19)), ((ad 1), ctE (f_X1_clear_h (u.1 1)) (ad 2) (ad 11)), ((ad 2), waE ty (ad 3) (ad 4) (ad 5) (ad 6)), ((ad 3), whE (f_X1_clear_a0 (u.1 2)) (ad 7)), ((ad 4), whE (f_X1_clear_a1 (u.1 3)) (ad 8)), ((ad 5), whE (f_X1_clear_a2 (u.1 4)) (ad 9)), ((ad 6), whE (f_X1_clear_a3 (u.1 5)) (ad 10)), ((ad 11), loE 0 0 (ad 12) (ad 13) (ad 14)), ((ad 15), roE 1 (ad 16) (ad 17) (ad 18)), ((ad 16), arE ty 12 (f_X3_clear_s0 (u.1 13))), ((ad 17), arE ty 12 (f_X3_clear_l0 (u.1 14))), ((ad 18), arE ty 12 (f_X3_clear_r0 (u.1 15))), ((ad 19), scE (u.2 3) (ad 20) (ad 21))]) C hK hA X (c_X3_clear l D ty (ad 15) (ad 16) (ad 17) (ad 18) (u.2 2) (u.1 13) (u.1 14) (u.1 15)) [8, 9, 10, 11] (pk_c rfl (pk_c rfl (pk_c rfl (pk_c rfl pk_n)))) rfl (pk_c rfl (pk_c rfl (pk_c rfl (pk_c rfl pk_n)))) (em_f (em_f (em_f (em_f (em_f (em_f (em_f (em_f (em_t (em_t (em_t (em_t (em_f em_n))))))))))))) rfl ml_X3_clear wm_X0_46 (q0 := 0) rfl rfl rfl ⟨Nat.le_of_ble_eq_true rfl, Nat.le_of_ble_eq_true rfl⟩ ⟨Nat.zero_le _, Nat.zero_le _⟩ hl.1 rfl (Nat.le_of_ble_eq_true rfl) dX0_clear_11 (fun H locs X => ?_)
  refine lv_aload_n hx hb dX0_clear_14 rfl (lv_at hl 0 rfl) ?_
  refine get_ca_4 C hK X 0 rfl fl_X0_38 dX0_clear_15 ?_
  refine s_cVv (ws' := [((ad 0), caE (u.1 0) (ad 1) (ad 2) (ad 11) (ad 15) (ad 19)), ((ad 1), ctE (f_X1_clear_h (u.1 1)) (ad 2) (ad 11)), ((ad 2), waE ty (ad 3) (ad 4) (ad 5) (ad 6)), ((ad 3), whE (f_X1_clear_a0 (u.1 2)) (ad 7)), ((ad 4), whE (f_X1_clear_a1 (u.1 3)) (ad 8)), ((ad 5), whE (f_X1_clear_a2 (u.1 4)) (ad 9)), ((ad 6), whE (f_X1_clear_a3 (u.1 5)) (ad 10)), ((ad 11), loE 0 0 (ad 12) (ad 13) (ad 14)), ((ad 15), roE 1 (ad 16) (ad 17) (ad 18)), ((ad 16), arE ty 12 (f_X3_clear_s0 (u.1 13))), ((ad 17), arE ty 12 (f_X3_clear_l0 (u.1 14))), ((ad 18), arE ty 12 (f_X3_clear_r0 (u.1 15))), ((ad 19), scE 0 (ad 20) (ad 21))]) C hK hA X (c_X4_clear l D ty (ad 19) (ad 20) (ad 21) (u.2 3)) [12] (pk_c rfl pk_n) rfl (pk_c rfl pk_n) (em_f (em_f (em_f (em_f (em_f (em_f (em_f (em_f (em_f (em_f (em_f (em_f (em_t em_n))))))))))))) rfl ml_X4_clear wm_X0_47 (q0 := 0) rfl rfl rfl ⟨Nat.le_of_ble_eq_true rfl, Nat.le_of_ble_eq_true rfl⟩ ⟨Nat.zero_le _, Nat.zero_le _⟩ hl.1 rfl (Nat.le_of_ble_eq_true rfl) dX0_clear_18 (fun H locs X => ?_)
  refine lv_aload_n hx hb dX0_clear_21 rfl (lv_at hl 0 rfl) ?_
  refine lv_iconst (v := 0) hx hb dX0_clear_22 (by decide) ?_
  refine put_ca_5 C hK X 0 rfl pl_X0_48 dX0_clear_23 (fun H locs X => ?_)
  have X : Wd D A s.heap [((ad 0), caE (upd (u.1 0) 0 0) (ad 1) (ad 2) (ad 11) (ad 15) (ad 19)), ((ad 1), ctE (f_X1_clear_h (u.1 1)) (ad 2) (ad 11)), ((ad 2), waE ty (ad 3) (ad 4) (ad 5) (ad 6)), ((ad 3), whE (f_X1_clear_a0 (u.1 2)) (ad 7)), ((ad 4), whE (f_X1_clear_a1 (u.1 3)) (ad 8)), ((ad 5), whE (f_X1_clear_a2 (u.1 4)) (ad 9)), ((ad 6), whE (f_X1_clear_a3 (u.1 5)) (ad 10)), ((ad 11), loE 0 0 (ad 12) (ad 13) (ad 14)), ((ad 15), roE 1 (ad 16) (ad 17) (ad 18)), ((ad 16), arE ty 12 (f_X3_clear_s0 (u.1 13))), ((ad 17), arE ty 12 (f_X3_clear_l0 (u.1 14))), ((ad 18), arE ty 12 (f_X3_clear_r0 (u.1 15))), ((ad 19), scE 0 (ad 20) (ad 21))] H locs := X
  refine lv_aload_n hx hb dX0_clear_26 rfl (lv_at hl 0 rfl) ?_
  refine lv_iconst (v := 0) hx hb dX0_clear_27 (by decide) ?_
  refine put_ca_6 C hK X 0 rfl pl_X0_52 dX0_clear_28 (fun H locs X => ?_)
  have X : Wd D A s.heap [((ad 0), caE (upd (upd (u.1 0) 0 0) 1 0) (ad 1) (ad 2) (ad 11) (ad 15) (ad 19)), ((ad 1), ctE (f_X1_clear_h (u.1 1)) (ad 2) (ad 11)), ((ad 2), waE ty (ad 3) (ad 4) (ad 5) (ad 6)), ((ad 3), whE (f_X1_clear_a0 (u.1 2)) (ad 7)), ((ad 4), whE (f_X1_clear_a1 (u.1 3)) (ad 8)), ((ad 5), whE (f_X1_clear_a2 (u.1 4)) (ad 9)), ((ad 6), whE (f_X1_clear_a3 (u.1 5)) (ad 10)), ((ad 11), loE 0 0 (ad 12) (ad 13) (ad 14)), ((ad 15), roE 1 (ad 16) (ad 17) (ad 18)), ((ad 16), arE ty 12 (f_X3_clear_s0 (u.1 13))), ((ad 17), arE ty 12 (f_X3_clear_l0 (u.1 14))), ((ad 18), arE ty 12 (f_X3_clear_r0 (u.1 15))), ((ad 19), scE 0 (ad 20) (ad 21))] H locs := X
  refine lv_aload_n hx hb dX0_clear_31 rfl (lv_at hl 0 rfl) ?_
  refine lv_iconst (v := 0) hx hb dX0_clear_32 (by decide) ?_
  refine put_ca_7 C hK X 0 rfl pl_X0_55 dX0_clear_33 (fun H locs X => ?_)
  have X : Wd D A s.heap [((ad 0), caE (upd (upd (upd (u.1 0) 0 0) 1 0) 2 0) (ad 1) (ad 2) (ad 11) (ad 15) (ad 19)), ((ad 1), ctE (f_X1_clear_h (u.1 1)) (ad 2) (ad 11)), ((ad 2), waE ty (ad 3) (ad 4) (ad 5) (ad 6)), ((ad 3), whE (f_X1_clear_a0 (u.1 2)) (ad 7)), ((ad 4), whE (f_X1_clear_a1 (u.1 3)) (ad 8)), ((ad 5), whE (f_X1_clear_a2 (u.1 4)) (ad 9)), ((ad 6), whE (f_X1_clear_a3 (u.1 5)) (ad 10)), ((ad 11), loE 0 0 (ad 12) (ad 13) (ad 14)), ((ad 15), roE 1 (ad 16) (ad 17) (ad 18)), ((ad 16), arE ty 12 (f_X3_clear_s0 (u.1 13))), ((ad 17), arE ty 12 (f_X3_clear_l0 (u.1 14))), ((ad 18), arE ty 12 (f_X3_clear_r0 (u.1 15))), ((ad 19), scE 0 (ad 20) (ad 21))] H locs := X
  refine lv_aload_n hx hb dX0_clear_36 rfl (lv_at hl 0 rfl) ?_
  refine lv_iconst (v := 0) hx hb dX0_clear_37 (by decide) ?_
  refine put_ca_8 C hK X 0 rfl pl_X0_58 dX0_clear_38 (fun H locs X => ?_)
  have X : Wd D A s.heap [((ad 0), caE (upd (upd (upd (upd (u.1 0) 0 0) 1 0) 2 0) 3 0) (ad 1) (ad 2) (ad 11) (ad 15) (ad 19)), ((ad 1), ctE (f_X1_clear_h (u.1 1)) (ad 2) (ad 11)), ((ad 2), waE ty (ad 3) (ad 4) (ad 5) (ad 6)), ((ad 3), whE (f_X1_clear_a0 (u.1 2)) (ad 7)), ((ad 4), whE (f_X1_clear_a1 (u.1 3)) (ad 8)), ((ad 5), whE (f_X1_clear_a2 (u.1 4)) (ad 9)), ((ad 6), whE (f_X1_clear_a3 (u.1 5)) (ad 10)), ((ad 11), loE 0 0 (ad 12) (ad 13) (ad 14)), ((ad 15), roE 1 (ad 16) (ad 17) (ad 18)), ((ad 16), arE ty 12 (f_X3_clear_s0 (u.1 13))), ((ad 17), arE ty 12 (f_X3_clear_l0 (u.1 14))), ((ad 18), arE ty 12 (f_X3_clear_r0 (u.1 15))), ((ad 19), scE 0 (ad 20) (ad 21))] H locs := X
  have e_0_0 : (f_X0_clear_ad0 u) = (upd (upd (upd (upd (u.1 0) 0 0) 1 0) 2 0) 3 0) := by first | (rw [f_X0_clear_ad0]; done) | (rw [f_X0_clear_ad0]; rfl) | (simp only [f_X0_clear_ad0]; done)
  have e_1_0 : (f_X0_clear_ad1 u) = (f_X1_clear_h (u.1 1)) := by first | (rw [f_X0_clear_ad1]; done) | (rw [f_X0_clear_ad1]; rfl) | (simp only [f_X0_clear_ad1]; done)
  have e_3_0 : (f_X0_clear_ad3 u) = (f_X1_clear_a0 (u.1 2)) := by first | (rw [f_X0_clear_ad3]; done) | (rw [f_X0_clear_ad3]; rfl) | (simp only [f_X0_clear_ad3]; done)
  have e_4_0 : (f_X0_clear_ad4 u) = (f_X1_clear_a1 (u.1 3)) := by first | (rw [f_X0_clear_ad4]; done) | (rw [f_X0_clear_ad4]; rfl) | (simp only [f_X0_clear_ad4]; done)
  have e_5_0 : (f_X0_clear_ad5 u) = (f_X1_clear_a2 (u.1 4)) := by first | (rw [f_X0_clear_ad5]; done) | (rw [f_X0_clear_ad5]; rfl) | (simp only [f_X0_clear_ad5]; done)
  have e_6_0 : (f_X0_clear_ad6 u) = (f_X1_clear_a3 (u.1 5)) := by first | (rw [f_X0_clear_ad6]; done) | (rw [f_X0_clear_ad6]; rfl) | (simp only [f_X0_clear_ad6]; done)
  have e_9_1 : (f_X0_clear_ad16 u) = (f_X3_clear_s0 (u.1 13)) := by first | (rw [f_X0_clear_ad16]; done) | (rw [f_X0_clear_ad16]; rfl) | (simp only [f_X0_clear_ad16]; done)
  have e_10_1 : (f_X0_clear_ad17 u) = (f_X3_clear_l0 (u.1 14)) := by first | (rw [f_X0_clear_ad17]; done) | (rw [f_X0_clear_ad17]; rfl) | (simp only [f_X0_clear_ad17]; done)
  have e_11_1 : (f_X0_clear_ad18 u) = (f_X3_clear_r0 (u.1 15)) := by first | (rw [f_X0_clear_ad18]; done) | (rw [f_X0_clear_ad18]; rfl) | (simp only [f_X0_clear_ad18]; done)
  exact hret _ _ _ _ _ dX0_clear_41 X (by rw [e_0_0, e_1_0, e_3_0, e_4_0, e_5_0, e_6_0, e_9_1, e_10_1, e_11_1])
def b_X0_clear_u_r (u : CarS) : Nat → F1
  | 0 => (f_X0_clear_ad0 u)
  | 1 => (f_X0_clear_ad1 u)
  | 2 => (f_X0_clear_ad3 u)
  | 3 => (f_X0_clear_ad4 u)
  | 4 => (f_X0_clear_ad5 u)
  | 5 => (f_X0_clear_ad6 u)
  | 6 => u.1 6
  | 7 => u.1 7
  | 8 => u.1 8
  | 9 => u.1 9
  | 10 => u.1 10
  | 11 => u.1 11
  | 12 => u.1 12
  | 13 => (f_X0_clear_ad16 u)
  | 14 => (f_X0_clear_ad17 u)
  | 15 => (f_X0_clear_ad18 u)
  | 16 => u.1 16
  | 17 => u.1 17
  | j => u.1 j
def b_X0_clear_u_n (u : CarS) : Nat → Nat
  | 0 => 0
  | 1 => 0
  | 2 => 1
  | 3 => 0
  | j => u.2 j
def b_X0_clear_u (u : CarS) : CarS := (b_X0_clear_u_r u, b_X0_clear_u_n u)
theorem b_X0_clear_u_f1 (u : CarS) : (b_X0_clear_u u).1 = b_X0_clear_u_r u := rfl
theorem b_X0_clear_u_f2 (u : CarS) : (b_X0_clear_u u).2 = b_X0_clear_u_n u := rfl
theorem b_X0_clear_u_r0 (u : CarS) : (b_X0_clear_u u).1 0 = (f_X0_clear_ad0 u) := by rw [b_X0_clear_u_f1, b_X0_clear_u_r]
theorem b_X0_clear_u_r1 (u : CarS) : (b_X0_clear_u u).1 1 = (f_X0_clear_ad1 u) := by rw [b_X0_clear_u_f1, b_X0_clear_u_r]
theorem b_X0_clear_u_r2 (u : CarS) : (b_X0_clear_u u).1 2 = (f_X0_clear_ad3 u) := by rw [b_X0_clear_u_f1, b_X0_clear_u_r]
theorem b_X0_clear_u_r3 (u : CarS) : (b_X0_clear_u u).1 3 = (f_X0_clear_ad4 u) := by rw [b_X0_clear_u_f1, b_X0_clear_u_r]
theorem b_X0_clear_u_r4 (u : CarS) : (b_X0_clear_u u).1 4 = (f_X0_clear_ad5 u) := by rw [b_X0_clear_u_f1, b_X0_clear_u_r]
theorem b_X0_clear_u_r5 (u : CarS) : (b_X0_clear_u u).1 5 = (f_X0_clear_ad6 u) := by rw [b_X0_clear_u_f1, b_X0_clear_u_r]
theorem b_X0_clear_u_r6 (u : CarS) : (b_X0_clear_u u).1 6 = u.1 6 := by rw [b_X0_clear_u_f1, b_X0_clear_u_r]
theorem b_X0_clear_u_r7 (u : CarS) : (b_X0_clear_u u).1 7 = u.1 7 := by rw [b_X0_clear_u_f1, b_X0_clear_u_r]
theorem b_X0_clear_u_r8 (u : CarS) : (b_X0_clear_u u).1 8 = u.1 8 := by rw [b_X0_clear_u_f1, b_X0_clear_u_r]
theorem b_X0_clear_u_r9 (u : CarS) : (b_X0_clear_u u).1 9 = u.1 9 := by rw [b_X0_clear_u_f1, b_X0_clear_u_r]
theorem b_X0_clear_u_r10 (u : CarS) : (b_X0_clear_u u).1 10 = u.1 10 := by rw [b_X0_clear_u_f1, b_X0_clear_u_r]
theorem b_X0_clear_u_r11 (u : CarS) : (b_X0_clear_u u).1 11 = u.1 11 := by rw [b_X0_clear_u_f1, b_X0_clear_u_r]
theorem b_X0_clear_u_r12 (u : CarS) : (b_X0_clear_u u).1 12 = u.1 12 := by rw [b_X0_clear_u_f1, b_X0_clear_u_r]
theorem b_X0_clear_u_r13 (u : CarS) : (b_X0_clear_u u).1 13 = (f_X0_clear_ad16 u) := by rw [b_X0_clear_u_f1, b_X0_clear_u_r]
theorem b_X0_clear_u_r14 (u : CarS) : (b_X0_clear_u u).1 14 = (f_X0_clear_ad17 u) := by rw [b_X0_clear_u_f1, b_X0_clear_u_r]
theorem b_X0_clear_u_r15 (u : CarS) : (b_X0_clear_u u).1 15 = (f_X0_clear_ad18 u) := by rw [b_X0_clear_u_f1, b_X0_clear_u_r]
theorem b_X0_clear_u_r16 (u : CarS) : (b_X0_clear_u u).1 16 = u.1 16 := by rw [b_X0_clear_u_f1, b_X0_clear_u_r]
theorem b_X0_clear_u_r17 (u : CarS) : (b_X0_clear_u u).1 17 = u.1 17 := by rw [b_X0_clear_u_f1, b_X0_clear_u_r]
theorem b_X0_clear_u_n0 (u : CarS) : (b_X0_clear_u u).2 0 = 0 := by rw [b_X0_clear_u_f2, b_X0_clear_u_n]
theorem b_X0_clear_u_n1 (u : CarS) : (b_X0_clear_u u).2 1 = 0 := by rw [b_X0_clear_u_f2, b_X0_clear_u_n]
theorem b_X0_clear_u_n2 (u : CarS) : (b_X0_clear_u u).2 2 = 1 := by rw [b_X0_clear_u_f2, b_X0_clear_u_n]
theorem b_X0_clear_u_n3 (u : CarS) : (b_X0_clear_u u).2 3 = 0 := by rw [b_X0_clear_u_f2, b_X0_clear_u_n]
set_option maxHeartbeats 4000000 in
set_option maxRecDepth 100000 in
theorem c_X0_clearB (l : Launch) (D : va_G) (ty : Nat → ClassId) (ad : Nat → Nat) (u : CarS) : MC l D ty yX0_clear cX0_clear 1 none 3 [.ref (ad 0)] [((ad 0), caE (u.1 0) (ad 1) (ad 2) (ad 11) (ad 15) (ad 19)), ((ad 1), ctE (u.1 1) (ad 2) (ad 11)), ((ad 2), waE ty (ad 3) (ad 4) (ad 5) (ad 6)), ((ad 3), whE (u.1 2) (ad 7)), ((ad 4), whE (u.1 3) (ad 8)), ((ad 5), whE (u.1 4) (ad 9)), ((ad 6), whE (u.1 5) (ad 10)), ((ad 11), loE (u.2 0) (u.2 1) (ad 12) (ad 13) (ad 14)), ((ad 15), roE (u.2 2) (ad 16) (ad 17) (ad 18)), ((ad 16), arE ty 12 (u.1 13)), ((ad 17), arE ty 12 (u.1 14)), ((ad 18), arE ty 12 (u.1 15)), ((ad 19), scE (u.2 3) (ad 20) (ad 21))] none [((ad 0), caE ((b_X0_clear_u u).1 0) (ad 1) (ad 2) (ad 11) (ad 15) (ad 19)), ((ad 1), ctE ((b_X0_clear_u u).1 1) (ad 2) (ad 11)), ((ad 2), waE ty (ad 3) (ad 4) (ad 5) (ad 6)), ((ad 3), whE ((b_X0_clear_u u).1 2) (ad 7)), ((ad 4), whE ((b_X0_clear_u u).1 3) (ad 8)), ((ad 5), whE ((b_X0_clear_u u).1 4) (ad 9)), ((ad 6), whE ((b_X0_clear_u u).1 5) (ad 10)), ((ad 11), loE ((b_X0_clear_u u).2 0) ((b_X0_clear_u u).2 1) (ad 12) (ad 13) (ad 14)), ((ad 15), roE ((b_X0_clear_u u).2 2) (ad 16) (ad 17) (ad 18)), ((ad 16), arE ty 12 ((b_X0_clear_u u).1 13)), ((ad 17), arE ty 12 ((b_X0_clear_u u).1 14)), ((ad 18), arE ty 12 ((b_X0_clear_u u).1 15)), ((ad 19), scE ((b_X0_clear_u u).2 3) (ad 20) (ad 21))] := by
  simp only [b_X0_clear_u_r0, b_X0_clear_u_r1, b_X0_clear_u_r2, b_X0_clear_u_r3, b_X0_clear_u_r4, b_X0_clear_u_r5, b_X0_clear_u_r6, b_X0_clear_u_r7, b_X0_clear_u_r8, b_X0_clear_u_r9, b_X0_clear_u_r10, b_X0_clear_u_r11, b_X0_clear_u_r12, b_X0_clear_u_r13, b_X0_clear_u_r14, b_X0_clear_u_r15, b_X0_clear_u_r16, b_X0_clear_u_r17, b_X0_clear_u_n0, b_X0_clear_u_n1, b_X0_clear_u_n2, b_X0_clear_u_n3]
  exact c_X0_clear l D ty ad u
def f_X0_copyFrom_ad0 (u : CarS) (uq : CarS) : F1 := (upd (upd (upd (upd (u.1 0) 0 ((uq.1 0) 0)) 1 ((uq.1 0) 1)) 2 ((uq.1 0) 2)) 3 ((uq.1 0) 3))
def f_X0_copyFrom_ad1 (u : CarS) (uq : CarS) : F1 := (f_X1_copyFrom_h (u.1 1) (uq.1 1))
def f_X0_copyFrom_ad3 (u : CarS) (uq : CarS) : F1 := (f_X1_copyFrom_a0 (u.1 2) (uq.1 2))
def f_X0_copyFrom_ad4 (u : CarS) (uq : CarS) : F1 := (f_X1_copyFrom_a1 (u.1 3) (uq.1 3))
def f_X0_copyFrom_ad5 (u : CarS) (uq : CarS) : F1 := (f_X1_copyFrom_a2 (u.1 4) (uq.1 4))
def f_X0_copyFrom_ad6 (u : CarS) (uq : CarS) : F1 := (f_X1_copyFrom_a3 (u.1 5) (uq.1 5))
def f_X0_copyFrom_ad7 (u : CarS) (uq : CarS) : F1 := (f_X1_copyFrom_m0 (u.1 6) (uq.1 6))
def f_X0_copyFrom_ad8 (u : CarS) (uq : CarS) : F1 := (f_X1_copyFrom_m1 (u.1 7) (uq.1 7))
def f_X0_copyFrom_ad9 (u : CarS) (uq : CarS) : F1 := (f_X1_copyFrom_m2 (u.1 8) (uq.1 8))
def f_X0_copyFrom_ad10 (u : CarS) (uq : CarS) : F1 := (f_X1_copyFrom_m3 (u.1 9) (uq.1 9))
def f_X0_copyFrom_ad11_fi (uq : CarS) : Nat := (uq.2 0)
def f_X0_copyFrom_ad11_lc (uq : CarS) : Nat := (uq.2 1)
def f_X0_copyFrom_ad12 (u : CarS) (uq : CarS) : F1 := (f_X1_copyFrom_t (u.1 10) (uq.1 10))
def f_X0_copyFrom_ad13 (u : CarS) (uq : CarS) : F1 := (f_X1_copyFrom_k (u.1 11) (uq.1 11))
def f_X0_copyFrom_ad14 (u : CarS) (uq : CarS) : F1 := (f_X1_copyFrom_v (u.1 12) (uq.1 12))
def f_X0_copyFrom_ad15_cn (uq : CarS) : Nat := (uq.2 2)
def f_X0_copyFrom_ad16 (u : CarS) (uq : CarS) : F1 := (f_X3_copyFrom_s0 (u.1 13) (uq.1 13))
def f_X0_copyFrom_ad17 (u : CarS) (uq : CarS) : F1 := (f_X3_copyFrom_l0 (u.1 14) (uq.1 14))
def f_X0_copyFrom_ad18 (u : CarS) (uq : CarS) : F1 := (f_X3_copyFrom_r0 (u.1 15) (uq.1 15))
def f_X0_copyFrom_ad19_pn (uq : CarS) : Nat := (uq.2 3)
def f_X0_copyFrom_ad20 (u : CarS) (uq : CarS) : F1 := (f_X4_copyFrom_t (u.1 16) (uq.1 16))
def f_X0_copyFrom_ad21 (u : CarS) (uq : CarS) : F1 := (f_X4_copyFrom_d (u.1 17) (uq.1 17))
theorem ok_X0_copyFrom_ad3 (u : CarS) (uq : CarS) (tk_adq3 : kpOK (uq.1 2)) : kpOK (f_X0_copyFrom_ad3 u uq) := by
  (try simp only [f_X0_copyFrom_ad3]); exact (ok_X1_copyFrom_a0 (u.1 2) (uq.1 2) tk_adq3)
theorem ok_X0_copyFrom_ad4 (u : CarS) (uq : CarS) (tk_adq4 : kpOK (uq.1 3)) : kpOK (f_X0_copyFrom_ad4 u uq) := by
  (try simp only [f_X0_copyFrom_ad4]); exact (ok_X1_copyFrom_a1 (u.1 3) (uq.1 3) tk_adq4)
theorem ok_X0_copyFrom_ad5 (u : CarS) (uq : CarS) (tk_adq5 : kpOK (uq.1 4)) : kpOK (f_X0_copyFrom_ad5 u uq) := by
  (try simp only [f_X0_copyFrom_ad5]); exact (ok_X1_copyFrom_a2 (u.1 4) (uq.1 4) tk_adq5)
theorem ok_X0_copyFrom_ad6 (u : CarS) (uq : CarS) (tk_adq6 : kpOK (uq.1 5)) : kpOK (f_X0_copyFrom_ad6 u uq) := by
  (try simp only [f_X0_copyFrom_ad6]); exact (ok_X1_copyFrom_a3 (u.1 5) (uq.1 5) tk_adq6)
theorem ok_X0_copyFrom_ad11 (uq : CarS) (tk_adq11 : lgOK (uq.2 0) (uq.2 1)) : lgOK (f_X0_copyFrom_ad11_fi uq) (f_X0_copyFrom_ad11_lc uq) := by
  (try simp only [f_X0_copyFrom_ad11_fi, f_X0_copyFrom_ad11_lc]); exact (ok_X1_copyFrom_al (uq.2 0) (uq.2 1) tk_adq11)
theorem ok_X0_copyFrom_ad15 (uq : CarS) (tk_adq15 : rdOK (uq.2 2)) : rdOK (f_X0_copyFrom_ad15_cn uq) := by
  (try simp only [f_X0_copyFrom_ad15_cn]); exact (ok_X3_copyFrom_h (uq.2 2) tk_adq15)
theorem ok_X0_copyFrom_ad19 (uq : CarS) (tk_adq19 : pnOK (uq.2 3)) : pnOK (f_X0_copyFrom_ad19_pn uq) := by
  (try simp only [f_X0_copyFrom_ad19_pn]); exact (ok_X4_copyFrom_h (uq.2 3) tk_adq19)
set_option maxHeartbeats 4000000 in
set_option maxRecDepth 100000 in
theorem c_X0_copyFrom (l : Launch) (D : va_G) (ty : Nat → ClassId) (ad : Nat → Nat) (u : CarS) (adq : Nat → Nat) (uq : CarS) (hB : BOK uq) : MC l D ty yX0_copyFrom cX0_copyFrom 2 none 3 [.ref (ad 0), .ref (adq 0)] [((ad 0), caE (u.1 0) (ad 1) (ad 2) (ad 11) (ad 15) (ad 19)), ((ad 1), ctE (u.1 1) (ad 2) (ad 11)), ((ad 2), waE ty (ad 3) (ad 4) (ad 5) (ad 6)), ((ad 3), whE (u.1 2) (ad 7)), ((ad 4), whE (u.1 3) (ad 8)), ((ad 5), whE (u.1 4) (ad 9)), ((ad 6), whE (u.1 5) (ad 10)), ((ad 7), arE ty 5 (u.1 6)), ((ad 8), arE ty 5 (u.1 7)), ((ad 9), arE ty 5 (u.1 8)), ((ad 10), arE ty 5 (u.1 9)), ((ad 11), loE (u.2 0) (u.2 1) (ad 12) (ad 13) (ad 14)), ((ad 12), arE ty 40 (u.1 10)), ((ad 13), arE ty 40 (u.1 11)), ((ad 14), arE ty 40 (u.1 12)), ((ad 15), roE (u.2 2) (ad 16) (ad 17) (ad 18)), ((ad 16), arE ty 12 (u.1 13)), ((ad 17), arE ty 12 (u.1 14)), ((ad 18), arE ty 12 (u.1 15)), ((ad 19), scE (u.2 3) (ad 20) (ad 21)), ((ad 20), arE ty 10 (u.1 16)), ((ad 21), arE ty 10 (u.1 17)), ((adq 0), caE (uq.1 0) (adq 1) (adq 2) (adq 11) (adq 15) (adq 19)), ((adq 1), ctE (uq.1 1) (adq 2) (adq 11)), ((adq 2), waE ty (adq 3) (adq 4) (adq 5) (adq 6)), ((adq 3), whE (uq.1 2) (adq 7)), ((adq 4), whE (uq.1 3) (adq 8)), ((adq 5), whE (uq.1 4) (adq 9)), ((adq 6), whE (uq.1 5) (adq 10)), ((adq 7), arE ty 5 (uq.1 6)), ((adq 8), arE ty 5 (uq.1 7)), ((adq 9), arE ty 5 (uq.1 8)), ((adq 10), arE ty 5 (uq.1 9)), ((adq 11), loE (uq.2 0) (uq.2 1) (adq 12) (adq 13) (adq 14)), ((adq 12), arE ty 40 (uq.1 10)), ((adq 13), arE ty 40 (uq.1 11)), ((adq 14), arE ty 40 (uq.1 12)), ((adq 15), roE (uq.2 2) (adq 16) (adq 17) (adq 18)), ((adq 16), arE ty 12 (uq.1 13)), ((adq 17), arE ty 12 (uq.1 14)), ((adq 18), arE ty 12 (uq.1 15)), ((adq 19), scE (uq.2 3) (adq 20) (adq 21)), ((adq 20), arE ty 10 (uq.1 16)), ((adq 21), arE ty 10 (uq.1 17))] none [((ad 0), caE (f_X0_copyFrom_ad0 u uq) (ad 1) (ad 2) (ad 11) (ad 15) (ad 19)), ((ad 1), ctE (f_X0_copyFrom_ad1 u uq) (ad 2) (ad 11)), ((ad 2), waE ty (ad 3) (ad 4) (ad 5) (ad 6)), ((ad 3), whE (f_X0_copyFrom_ad3 u uq) (ad 7)), ((ad 4), whE (f_X0_copyFrom_ad4 u uq) (ad 8)), ((ad 5), whE (f_X0_copyFrom_ad5 u uq) (ad 9)), ((ad 6), whE (f_X0_copyFrom_ad6 u uq) (ad 10)), ((ad 7), arE ty 5 (f_X0_copyFrom_ad7 u uq)), ((ad 8), arE ty 5 (f_X0_copyFrom_ad8 u uq)), ((ad 9), arE ty 5 (f_X0_copyFrom_ad9 u uq)), ((ad 10), arE ty 5 (f_X0_copyFrom_ad10 u uq)), ((ad 11), loE (f_X0_copyFrom_ad11_fi uq) (f_X0_copyFrom_ad11_lc uq) (ad 12) (ad 13) (ad 14)), ((ad 12), arE ty 40 (f_X0_copyFrom_ad12 u uq)), ((ad 13), arE ty 40 (f_X0_copyFrom_ad13 u uq)), ((ad 14), arE ty 40 (f_X0_copyFrom_ad14 u uq)), ((ad 15), roE (f_X0_copyFrom_ad15_cn uq) (ad 16) (ad 17) (ad 18)), ((ad 16), arE ty 12 (f_X0_copyFrom_ad16 u uq)), ((ad 17), arE ty 12 (f_X0_copyFrom_ad17 u uq)), ((ad 18), arE ty 12 (f_X0_copyFrom_ad18 u uq)), ((ad 19), scE (f_X0_copyFrom_ad19_pn uq) (ad 20) (ad 21)), ((ad 20), arE ty 10 (f_X0_copyFrom_ad20 u uq)), ((ad 21), arE ty 10 (f_X0_copyFrom_ad21 u uq)), ((adq 0), caE (uq.1 0) (adq 1) (adq 2) (adq 11) (adq 15) (adq 19)), ((adq 1), ctE (uq.1 1) (adq 2) (adq 11)), ((adq 2), waE ty (adq 3) (adq 4) (adq 5) (adq 6)), ((adq 3), whE (uq.1 2) (adq 7)), ((adq 4), whE (uq.1 3) (adq 8)), ((adq 5), whE (uq.1 4) (adq 9)), ((adq 6), whE (uq.1 5) (adq 10)), ((adq 7), arE ty 5 (uq.1 6)), ((adq 8), arE ty 5 (uq.1 7)), ((adq 9), arE ty 5 (uq.1 8)), ((adq 10), arE ty 5 (uq.1 9)), ((adq 11), loE (uq.2 0) (uq.2 1) (adq 12) (adq 13) (adq 14)), ((adq 12), arE ty 40 (uq.1 10)), ((adq 13), arE ty 40 (uq.1 11)), ((adq 14), arE ty 40 (uq.1 12)), ((adq 15), roE (uq.2 2) (adq 16) (adq 17) (adq 18)), ((adq 16), arE ty 12 (uq.1 13)), ((adq 17), arE ty 12 (uq.1 14)), ((adq 18), arE ty 12 (uq.1 15)), ((adq 19), scE (uq.2 3) (adq 20) (adq 21)), ((adq 20), arE ty 10 (uq.1 16)), ((adq 21), arE ty 10 (uq.1 17))] := by
  refine mc_v (by decide +kernel) (Nat.le_of_ble_eq_true rfl) ?_
  intro p e s m args below meth c A Q ls C hK hA X hret hl
  have hx := C.1
  have hb := C.2.1
  have hl : lv_has ls 2 [(0, .ref (ad 0)), (1, .ref (adq 0))] := hl
  have X : Wd D A s.heap [((ad 0), caE (u.1 0) (ad 1) (ad 2) (ad 11) (ad 15) (ad 19)), ((ad 1), ctE (u.1 1) (ad 2) (ad 11)), ((ad 2), waE ty (ad 3) (ad 4) (ad 5) (ad 6)), ((ad 3), whE (u.1 2) (ad 7)), ((ad 4), whE (u.1 3) (ad 8)), ((ad 5), whE (u.1 4) (ad 9)), ((ad 6), whE (u.1 5) (ad 10)), ((ad 7), arE ty 5 (u.1 6)), ((ad 8), arE ty 5 (u.1 7)), ((ad 9), arE ty 5 (u.1 8)), ((ad 10), arE ty 5 (u.1 9)), ((ad 11), loE (u.2 0) (u.2 1) (ad 12) (ad 13) (ad 14)), ((ad 12), arE ty 40 (u.1 10)), ((ad 13), arE ty 40 (u.1 11)), ((ad 14), arE ty 40 (u.1 12)), ((ad 15), roE (u.2 2) (ad 16) (ad 17) (ad 18)), ((ad 16), arE ty 12 (u.1 13)), ((ad 17), arE ty 12 (u.1 14)), ((ad 18), arE ty 12 (u.1 15)), ((ad 19), scE (u.2 3) (ad 20) (ad 21)), ((ad 20), arE ty 10 (u.1 16)), ((ad 21), arE ty 10 (u.1 17)), ((adq 0), caE (uq.1 0) (adq 1) (adq 2) (adq 11) (adq 15) (adq 19)), ((adq 1), ctE (uq.1 1) (adq 2) (adq 11)), ((adq 2), waE ty (adq 3) (adq 4) (adq 5) (adq 6)), ((adq 3), whE (uq.1 2) (adq 7)), ((adq 4), whE (uq.1 3) (adq 8)), ((adq 5), whE (uq.1 4) (adq 9)), ((adq 6), whE (uq.1 5) (adq 10)), ((adq 7), arE ty 5 (uq.1 6)), ((adq 8), arE ty 5 (uq.1 7)), ((adq 9), arE ty 5 (uq.1 8)), ((adq 10), arE ty 5 (uq.1 9)), ((adq 11), loE (uq.2 0) (uq.2 1) (adq 12) (adq 13) (adq 14)), ((adq 12), arE ty 40 (uq.1 10)), ((adq 13), arE ty 40 (uq.1 11)), ((adq 14), arE ty 40 (uq.1 12)), ((adq 15), roE (uq.2 2) (adq 16) (adq 17) (adq 18)), ((adq 16), arE ty 12 (uq.1 13)), ((adq 17), arE ty 12 (uq.1 14)), ((adq 18), arE ty 12 (uq.1 15)), ((adq 19), scE (uq.2 3) (adq 20) (adq 21)), ((adq 20), arE ty 10 (uq.1 16)), ((adq 21), arE ty 10 (uq.1 17))] s.heap [] := X
  refine lv_aload_n hx hb dX0_copyFrom_0 rfl (lv_at hl 0 rfl) ?_
  refine get_ca_0 C hK X 0 rfl fl_X0_12 dX0_copyFrom_1 ?_
  refine lv_aload_n hx hb dX0_copyFrom_4 rfl (lv_at hl 1 rfl) ?_
  refine get_ca_0 C hK X 22 rfl fl_X0_12 dX0_copyFrom_5 ?_
  refine s_cVv (ws' := [((ad 0), caE (u.1 0) (ad 1) (ad 2) (ad 11) (ad 15) (ad 19)), ((ad 1), ctE (f_X1_copyFrom_h (u.1 1) (uq.1 1)) (ad 2) (ad 11)), ((ad 2), waE ty (ad 3) (ad 4) (ad 5) (ad 6)), ((ad 3), whE (f_X1_copyFrom_a0 (u.1 2) (uq.1 2)) (ad 7)), ((ad 4), whE (f_X1_copyFrom_a1 (u.1 3) (uq.1 3)) (ad 8)), ((ad 5), whE (f_X1_copyFrom_a2 (u.1 4) (uq.1 4)) (ad 9)), ((ad 6), whE (f_X1_copyFrom_a3 (u.1 5) (uq.1 5)) (ad 10)), ((ad 7), arE ty 5 (f_X1_copyFrom_m0 (u.1 6) (uq.1 6))), ((ad 8), arE ty 5 (f_X1_copyFrom_m1 (u.1 7) (uq.1 7))), ((ad 9), arE ty 5 (f_X1_copyFrom_m2 (u.1 8) (uq.1 8))), ((ad 10), arE ty 5 (f_X1_copyFrom_m3 (u.1 9) (uq.1 9))), ((ad 11), loE (uq.2 0) (uq.2 1) (ad 12) (ad 13) (ad 14)), ((ad 12), arE ty 40 (f_X1_copyFrom_t (u.1 10) (uq.1 10))), ((ad 13), arE ty 40 (f_X1_copyFrom_k (u.1 11) (uq.1 11))), ((ad 14), arE ty 40 (f_X1_copyFrom_v (u.1 12) (uq.1 12))), ((ad 15), roE (u.2 2) (ad 16) (ad 17) (ad 18)), ((ad 16), arE ty 12 (u.1 13)), ((ad 17), arE ty 12 (u.1 14)), ((ad 18), arE ty 12 (u.1 15)), ((ad 19), scE (u.2 3) (ad 20) (ad 21)), ((ad 20), arE ty 10 (u.1 16)), ((ad 21), arE ty 10 (u.1 17)), ((adq 0), caE (uq.1 0) (adq 1) (adq 2) (adq 11) (adq 15) (adq 19)), ((adq 1), ctE (uq.1 1) (adq 2) (adq 11)), ((adq 2), waE ty (adq 3) (adq 4) (adq 5) (adq 6)), ((adq 3), whE (uq.1 2) (adq 7)), ((adq 4), whE (uq.1 3) (adq 8)), ((adq 5), whE (uq.1 4) (adq 9)), ((adq 6), whE (uq.1 5) (adq 10)), ((adq 7), arE ty 5 (uq.1 6)), ((adq 8), arE ty 5 (uq.1 7)), ((adq 9), arE ty 5 (uq.1 8)), ((adq 10), arE ty 5 (uq.1 9)), ((adq 11), loE (uq.2 0) (uq.2 1) (adq 12) (adq 13) (adq 14)), ((adq 12), arE ty 40 (uq.1 10)), ((adq 13), arE ty 40 (uq.1 11)), ((adq 14), arE ty 40 (uq.1 12)), ((adq 15), roE (uq.2 2) (adq 16) (adq 17) (adq 18)), ((adq 16), arE ty 12 (uq.1 13)), ((adq 17), arE ty 12 (uq.1 14)), ((adq 18), arE ty 12 (uq.1 15)), ((adq 19), scE (uq.2 3) (adq 20) (adq 21)), ((adq 20), arE ty 10 (uq.1 16)), ((adq 21), arE ty 10 (uq.1 17))]) C hK hA X (c_X1_copyFrom l D ty (ad 1) (ad 2) (ad 11) (ad 3) (ad 4) (ad 5) (ad 6) (ad 7) (ad 8) (ad 9) (ad 10) (ad 12) (ad 13) (ad 14) (u.2 0) (u.2 1) (u.1 1) (u.1 2) (u.1 3) (u.1 4) (u.1 5) (u.1 6) (u.1 7) (u.1 8) (u.1 9) (u.1 10) (u.1 11) (u.1 12) (adq 1) (adq 2) (adq 11) (adq 3) (adq 4) (adq 5) (adq 6) (adq 7) (adq 8) (adq 9) (adq 10) (adq 12) (adq 13) (adq 14) (uq.2 0) (uq.2 1) (uq.1 1) (uq.1 2) (uq.1 3) (uq.1 4) (uq.1 5) (uq.1 6) (uq.1 7) (uq.1 8) (uq.1 9) (uq.1 10) (uq.1 11) (uq.1 12) hB.1 hB.2.1 hB.2.2.1 hB.2.2.2.1 hB.2.2.2.2.1 hB.2.2.2.2.2.1 hB.2.2.2.2.2.2.1 hB.2.2.2.2.2.2.2.1 hB.2.2.2.2.2.2.2.2.1 hB.2.2.2.2.2.2.2.2.2) [1, 2, 3, 4, 5, 6, 7, 8, 9, 10, 11, 12, 13, 14, 23, 24, 25, 26, 27, 28, 29, 30, 31, 32, 33, 34, 35, 36] (pk_c rfl (pk_c rfl (pk_c rfl (pk_c rfl (pk_c rfl (pk_c rfl (pk_c rfl (pk_c rfl (pk_c rfl (pk_c rfl (pk_c rfl (pk_c rfl (pk_c rfl (pk_c rfl (pk_c rfl (pk_c rfl (pk_c rfl (pk_c rfl (pk_c rfl (pk_c rfl (pk_c rfl (pk_c rfl (pk_c rfl (pk_c rfl (pk_c rfl (pk_c rfl (pk_c rfl (pk_c rfl pk_n)))))))))))))))))))))))))))) rfl (pk_c rfl (pk_c rfl (pk_c rfl (pk_c rfl (pk_c rfl (pk_c rfl (pk_c rfl (pk_c rfl (pk_c rfl (pk_c rfl (pk_c rfl (pk_c rfl (pk_c rfl (pk_c rfl (pk_c rfl (pk_c rfl (pk_c rfl (pk_c rfl (pk_c rfl (pk_c rfl (pk_c rfl (pk_c rfl (pk_c rfl (pk_c rfl (pk_c rfl (pk_c rfl (pk_c rfl (pk_c rfl pk_n)))))))))))))))))))))))))))) (em_f (em_t (em_t (em_t (em_t (em_t (em_t (em_t (em_t (em_t (em_t (em_t (em_t (em_t (em_t (em_f (em_f (em_f (em_f (em_f (em_f (em_f (em_f (em_t (em_t (em_t (em_t (em_t (em_t (em_t (em_t (em_t (em_t (em_t (em_t (em_t (em_t (em_f (em_f (em_f (em_f (em_f (em_f (em_f em_n)))))))))))))))))))))))))))))))))))))))))))) rfl ml_X1_copyFrom wm_X0_61 (q0 := 0) rfl rfl rfl ⟨Nat.le_of_ble_eq_true rfl, Nat.le_of_ble_eq_true rfl⟩ ⟨Nat.zero_le _, Nat.zero_le _⟩ hl.1 rfl (Nat.le_of_ble_eq_true rfl) dX0_copyFrom_8 (fun H locs X => ?_)
  refine lv_aload_n hx hb dX0_copyFrom_11 rfl (lv_at hl 0 rfl) ?_
  refine get_ca_3 C hK X 0 rfl fl_X0_31 dX0_copyFrom_12 ?_
  refine lv_aload_n hx hb dX0_copyFrom_15 rfl (lv_at hl 1 rfl) ?_
  refine get_ca_3 C hK X 22 rfl fl_X0_31 dX0_copyFrom_16 ?_
  refine s_cVv (ws' := [((ad 0), caE (u.1 0) (ad 1) (ad 2) (ad 11) (ad 15) (ad 19)), ((ad 1), ctE (f_X1_copyFrom_h (u.1 1) (uq.1 1)) (ad 2) (ad 11)), ((ad 2), waE ty (ad 3) (ad 4) (ad 5) (ad 6)), ((ad 3), whE (f_X1_copyFrom_a0 (u.1 2) (uq.1 2)) (ad 7)), ((ad 4), whE (f_X1_copyFrom_a1 (u.1 3) (uq.1 3)) (ad 8)), ((ad 5), whE (f_X1_copyFrom_a2 (u.1 4) (uq.1 4)) (ad 9)), ((ad 6), whE (f_X1_copyFrom_a3 (u.1 5) (uq.1 5)) (ad 10)), ((ad 7), arE ty 5 (f_X1_copyFrom_m0 (u.1 6) (uq.1 6))), ((ad 8), arE ty 5 (f_X1_copyFrom_m1 (u.1 7) (uq.1 7))), ((ad 9), arE ty 5 (f_X1_copyFrom_m2 (u.1 8) (uq.1 8))), ((ad 10), arE ty 5 (f_X1_copyFrom_m3 (u.1 9) (uq.1 9))), ((ad 11), loE (uq.2 0) (uq.2 1) (ad 12) (ad 13) (ad 14)), ((ad 12), arE ty 40 (f_X1_copyFrom_t (u.1 10) (uq.1 10))), ((ad 13), arE ty 40 (f_X1_copyFrom_k (u.1 11) (uq.1 11))), ((ad 14), arE ty 40 (f_X1_copyFrom_v (u.1 12) (uq.1 12))), ((ad 15), roE (uq.2 2) (ad 16) (ad 17) (ad 18)), ((ad 16), arE ty 12 (f_X3_copyFrom_s0 (u.1 13) (uq.1 13))), ((ad 17), arE ty 12 (f_X3_copyFrom_l0 (u.1 14) (uq.1 14))), ((ad 18), arE ty 12 (f_X3_copyFrom_r0 (u.1 15) (uq.1 15))), ((ad 19), scE (u.2 3) (ad 20) (ad 21)), ((ad 20), arE ty 10 (u.1 16)), ((ad 21), arE ty 10 (u.1 17)), ((adq 0), caE (uq.1 0) (adq 1) (adq 2) (adq 11) (adq 15) (adq 19)), ((adq 1), ctE (uq.1 1) (adq 2) (adq 11)), ((adq 2), waE ty (adq 3) (adq 4) (adq 5) (adq 6)), ((adq 3), whE (uq.1 2) (adq 7)), ((adq 4), whE (uq.1 3) (adq 8)), ((adq 5), whE (uq.1 4) (adq 9)), ((adq 6), whE (uq.1 5) (adq 10)), ((adq 7), arE ty 5 (uq.1 6)), ((adq 8), arE ty 5 (uq.1 7)), ((adq 9), arE ty 5 (uq.1 8)), ((adq 10), arE ty 5 (uq.1 9)), ((adq 11), loE (uq.2 0) (uq.2 1) (adq 12) (adq 13) (adq 14)), ((adq 12), arE ty 40 (uq.1 10)), ((adq 13), arE ty 40 (uq.1 11)), ((adq 14), arE ty 40 (uq.1 12)), ((adq 15), roE (uq.2 2) (adq 16) (adq 17) (adq 18)), ((adq 16), arE ty 12 (uq.1 13)), ((adq 17), arE ty 12 (uq.1 14)), ((adq 18), arE ty 12 (uq.1 15)), ((adq 19), scE (uq.2 3) (adq 20) (adq 21)), ((adq 20), arE ty 10 (uq.1 16)), ((adq 21), arE ty 10 (uq.1 17))]) C hK hA X (c_X3_copyFrom l D ty (ad 15) (ad 16) (ad 17) (ad 18) (u.2 2) (u.1 13) (u.1 14) (u.1 15) (adq 15) (adq 16) (adq 17) (adq 18) (uq.2 2) (uq.1 13) (uq.1 14) (uq.1 15)) [15, 16, 17, 18, 37, 38, 39, 40] (pk_c rfl (pk_c rfl (pk_c rfl (pk_c rfl (pk_c rfl (pk_c rfl (pk_c rfl (pk_c rfl pk_n)))))))) rfl (pk_c rfl (pk_c rfl (pk_c rfl (pk_c rfl (pk_c rfl (pk_c rfl (pk_c rfl (pk_c rfl pk_n)))))))) (em_f (em_f (em_f (em_f (em_f (em_f (em_f (em_f (em_f (em_f (em_f (em_f (em_f (em_f (em_f (em_t (em_t (em_t (em_t (em_f (em_f (em_f (em_f (em_f (em_f (em_f (em_f (em_f (em_f (em_f (em_f (em_f (em_f (em_f (em_f (em_f (em_f (em_t (em_t (em_t (em_t (em_f (em_f (em_f em_n)))))))))))))))))))))))))))))))))))))))))))) rfl ml_X3_copyFrom wm_X0_65 (q0 := 0) rfl rfl rfl ⟨Nat.le_of_ble_eq_true rfl, Nat.le_of_ble_eq_true rfl⟩ ⟨Nat.zero_le _, Nat.zero_le _⟩ hl.1 rfl (Nat.le_of_ble_eq_true rfl) dX0_copyFrom_19 (fun H locs X => ?_)
  refine lv_aload_n hx hb dX0_copyFrom_22 rfl (lv_at hl 0 rfl) ?_
  refine get_ca_4 C hK X 0 rfl fl_X0_38 dX0_copyFrom_23 ?_
  refine lv_aload_n hx hb dX0_copyFrom_26 rfl (lv_at hl 1 rfl) ?_
  refine get_ca_4 C hK X 22 rfl fl_X0_38 dX0_copyFrom_27 ?_
  refine s_cVv (ws' := [((ad 0), caE (u.1 0) (ad 1) (ad 2) (ad 11) (ad 15) (ad 19)), ((ad 1), ctE (f_X1_copyFrom_h (u.1 1) (uq.1 1)) (ad 2) (ad 11)), ((ad 2), waE ty (ad 3) (ad 4) (ad 5) (ad 6)), ((ad 3), whE (f_X1_copyFrom_a0 (u.1 2) (uq.1 2)) (ad 7)), ((ad 4), whE (f_X1_copyFrom_a1 (u.1 3) (uq.1 3)) (ad 8)), ((ad 5), whE (f_X1_copyFrom_a2 (u.1 4) (uq.1 4)) (ad 9)), ((ad 6), whE (f_X1_copyFrom_a3 (u.1 5) (uq.1 5)) (ad 10)), ((ad 7), arE ty 5 (f_X1_copyFrom_m0 (u.1 6) (uq.1 6))), ((ad 8), arE ty 5 (f_X1_copyFrom_m1 (u.1 7) (uq.1 7))), ((ad 9), arE ty 5 (f_X1_copyFrom_m2 (u.1 8) (uq.1 8))), ((ad 10), arE ty 5 (f_X1_copyFrom_m3 (u.1 9) (uq.1 9))), ((ad 11), loE (uq.2 0) (uq.2 1) (ad 12) (ad 13) (ad 14)), ((ad 12), arE ty 40 (f_X1_copyFrom_t (u.1 10) (uq.1 10))), ((ad 13), arE ty 40 (f_X1_copyFrom_k (u.1 11) (uq.1 11))), ((ad 14), arE ty 40 (f_X1_copyFrom_v (u.1 12) (uq.1 12))), ((ad 15), roE (uq.2 2) (ad 16) (ad 17) (ad 18)), ((ad 16), arE ty 12 (f_X3_copyFrom_s0 (u.1 13) (uq.1 13))), ((ad 17), arE ty 12 (f_X3_copyFrom_l0 (u.1 14) (uq.1 14))), ((ad 18), arE ty 12 (f_X3_copyFrom_r0 (u.1 15) (uq.1 15))), ((ad 19), scE (uq.2 3) (ad 20) (ad 21)), ((ad 20), arE ty 10 (f_X4_copyFrom_t (u.1 16) (uq.1 16))), ((ad 21), arE ty 10 (f_X4_copyFrom_d (u.1 17) (uq.1 17))), ((adq 0), caE (uq.1 0) (adq 1) (adq 2) (adq 11) (adq 15) (adq 19)), ((adq 1), ctE (uq.1 1) (adq 2) (adq 11)), ((adq 2), waE ty (adq 3) (adq 4) (adq 5) (adq 6)), ((adq 3), whE (uq.1 2) (adq 7)), ((adq 4), whE (uq.1 3) (adq 8)), ((adq 5), whE (uq.1 4) (adq 9)), ((adq 6), whE (uq.1 5) (adq 10)), ((adq 7), arE ty 5 (uq.1 6)), ((adq 8), arE ty 5 (uq.1 7)), ((adq 9), arE ty 5 (uq.1 8)), ((adq 10), arE ty 5 (uq.1 9)), ((adq 11), loE (uq.2 0) (uq.2 1) (adq 12) (adq 13) (adq 14)), ((adq 12), arE ty 40 (uq.1 10)), ((adq 13), arE ty 40 (uq.1 11)), ((adq 14), arE ty 40 (uq.1 12)), ((adq 15), roE (uq.2 2) (adq 16) (adq 17) (adq 18)), ((adq 16), arE ty 12 (uq.1 13)), ((adq 17), arE ty 12 (uq.1 14)), ((adq 18), arE ty 12 (uq.1 15)), ((adq 19), scE (uq.2 3) (adq 20) (adq 21)), ((adq 20), arE ty 10 (uq.1 16)), ((adq 21), arE ty 10 (uq.1 17))]) C hK hA X (c_X4_copyFrom l D ty (ad 19) (ad 20) (ad 21) (u.2 3) (u.1 16) (u.1 17) (adq 19) (adq 20) (adq 21) (uq.2 3) (uq.1 16) (uq.1 17)) [19, 20, 21, 41, 42, 43] (pk_c rfl (pk_c rfl (pk_c rfl (pk_c rfl (pk_c rfl (pk_c rfl pk_n)))))) rfl (pk_c rfl (pk_c rfl (pk_c rfl (pk_c rfl (pk_c rfl (pk_c rfl pk_n)))))) (em_f (em_f (em_f (em_f (em_f (em_f (em_f (em_f (em_f (em_f (em_f (em_f (em_f (em_f (em_f (em_f (em_f (em_f (em_f (em_t (em_t (em_t (em_f (em_f (em_f (em_f (em_f (em_f (em_f (em_f (em_f (em_f (em_f (em_f (em_f (em_f (em_f (em_f (em_f (em_f (em_f (em_t (em_t (em_t em_n)))))))))))))))))))))))))))))))))))))))))))) rfl ml_X4_copyFrom wm_X0_68 (q0 := 0) rfl rfl rfl ⟨Nat.le_of_ble_eq_true rfl, Nat.le_of_ble_eq_true rfl⟩ ⟨Nat.zero_le _, Nat.zero_le _⟩ hl.1 rfl (Nat.le_of_ble_eq_true rfl) dX0_copyFrom_30 (fun H locs X => ?_)
  refine lv_aload_n hx hb dX0_copyFrom_33 rfl (lv_at hl 0 rfl) ?_
  refine lv_aload_n hx hb dX0_copyFrom_34 rfl (lv_at hl 1 rfl) ?_
  refine get_ca_5 C hK X 22 rfl fl_X0_48 dX0_copyFrom_35 ?_
  refine put_ca_5 C hK X 0 rfl pl_X0_48 dX0_copyFrom_38 (fun H locs X => ?_)
  have X : Wd D A s.heap [((ad 0), caE (upd (u.1 0) 0 ((uq.1 0) 0)) (ad 1) (ad 2) (ad 11) (ad 15) (ad 19)), ((ad 1), ctE (f_X1_copyFrom_h (u.1 1) (uq.1 1)) (ad 2) (ad 11)), ((ad 2), waE ty (ad 3) (ad 4) (ad 5) (ad 6)), ((ad 3), whE (f_X1_copyFrom_a0 (u.1 2) (uq.1 2)) (ad 7)), ((ad 4), whE (f_X1_copyFrom_a1 (u.1 3) (uq.1 3)) (ad 8)), ((ad 5), whE (f_X1_copyFrom_a2 (u.1 4) (uq.1 4)) (ad 9)), ((ad 6), whE (f_X1_copyFrom_a3 (u.1 5) (uq.1 5)) (ad 10)), ((ad 7), arE ty 5 (f_X1_copyFrom_m0 (u.1 6) (uq.1 6))), ((ad 8), arE ty 5 (f_X1_copyFrom_m1 (u.1 7) (uq.1 7))), ((ad 9), arE ty 5 (f_X1_copyFrom_m2 (u.1 8) (uq.1 8))), ((ad 10), arE ty 5 (f_X1_copyFrom_m3 (u.1 9) (uq.1 9))), ((ad 11), loE (uq.2 0) (uq.2 1) (ad 12) (ad 13) (ad 14)), ((ad 12), arE ty 40 (f_X1_copyFrom_t (u.1 10) (uq.1 10))), ((ad 13), arE ty 40 (f_X1_copyFrom_k (u.1 11) (uq.1 11))), ((ad 14), arE ty 40 (f_X1_copyFrom_v (u.1 12) (uq.1 12))), ((ad 15), roE (uq.2 2) (ad 16) (ad 17) (ad 18)), ((ad 16), arE ty 12 (f_X3_copyFrom_s0 (u.1 13) (uq.1 13))), ((ad 17), arE ty 12 (f_X3_copyFrom_l0 (u.1 14) (uq.1 14))), ((ad 18), arE ty 12 (f_X3_copyFrom_r0 (u.1 15) (uq.1 15))), ((ad 19), scE (uq.2 3) (ad 20) (ad 21)), ((ad 20), arE ty 10 (f_X4_copyFrom_t (u.1 16) (uq.1 16))), ((ad 21), arE ty 10 (f_X4_copyFrom_d (u.1 17) (uq.1 17))), ((adq 0), caE (uq.1 0) (adq 1) (adq 2) (adq 11) (adq 15) (adq 19)), ((adq 1), ctE (uq.1 1) (adq 2) (adq 11)), ((adq 2), waE ty (adq 3) (adq 4) (adq 5) (adq 6)), ((adq 3), whE (uq.1 2) (adq 7)), ((adq 4), whE (uq.1 3) (adq 8)), ((adq 5), whE (uq.1 4) (adq 9)), ((adq 6), whE (uq.1 5) (adq 10)), ((adq 7), arE ty 5 (uq.1 6)), ((adq 8), arE ty 5 (uq.1 7)), ((adq 9), arE ty 5 (uq.1 8)), ((adq 10), arE ty 5 (uq.1 9)), ((adq 11), loE (uq.2 0) (uq.2 1) (adq 12) (adq 13) (adq 14)), ((adq 12), arE ty 40 (uq.1 10)), ((adq 13), arE ty 40 (uq.1 11)), ((adq 14), arE ty 40 (uq.1 12)), ((adq 15), roE (uq.2 2) (adq 16) (adq 17) (adq 18)), ((adq 16), arE ty 12 (uq.1 13)), ((adq 17), arE ty 12 (uq.1 14)), ((adq 18), arE ty 12 (uq.1 15)), ((adq 19), scE (uq.2 3) (adq 20) (adq 21)), ((adq 20), arE ty 10 (uq.1 16)), ((adq 21), arE ty 10 (uq.1 17))] H locs := X
  refine lv_aload_n hx hb dX0_copyFrom_41 rfl (lv_at hl 0 rfl) ?_
  refine lv_aload_n hx hb dX0_copyFrom_42 rfl (lv_at hl 1 rfl) ?_
  refine get_ca_6 C hK X 22 rfl fl_X0_52 dX0_copyFrom_43 ?_
  refine put_ca_6 C hK X 0 rfl pl_X0_52 dX0_copyFrom_46 (fun H locs X => ?_)
  have X : Wd D A s.heap [((ad 0), caE (upd (upd (u.1 0) 0 ((uq.1 0) 0)) 1 ((uq.1 0) 1)) (ad 1) (ad 2) (ad 11) (ad 15) (ad 19)), ((ad 1), ctE (f_X1_copyFrom_h (u.1 1) (uq.1 1)) (ad 2) (ad 11)), ((ad 2), waE ty (ad 3) (ad 4) (ad 5) (ad 6)), ((ad 3), whE (f_X1_copyFrom_a0 (u.1 2) (uq.1 2)) (ad 7)), ((ad 4), whE (f_X1_copyFrom_a1 (u.1 3) (uq.1 3)) (ad 8)), ((ad 5), whE (f_X1_copyFrom_a2 (u.1 4) (uq.1 4)) (ad 9)), ((ad 6), whE (f_X1_copyFrom_a3 (u.1 5) (uq.1 5)) (ad 10)), ((ad 7), arE ty 5 (f_X1_copyFrom_m0 (u.1 6) (uq.1 6))), ((ad 8), arE ty 5 (f_X1_copyFrom_m1 (u.1 7) (uq.1 7))), ((ad 9), arE ty 5 (f_X1_copyFrom_m2 (u.1 8) (uq.1 8))), ((ad 10), arE ty 5 (f_X1_copyFrom_m3 (u.1 9) (uq.1 9))), ((ad 11), loE (uq.2 0) (uq.2 1) (ad 12) (ad 13) (ad 14)), ((ad 12), arE ty 40 (f_X1_copyFrom_t (u.1 10) (uq.1 10))), ((ad 13), arE ty 40 (f_X1_copyFrom_k (u.1 11) (uq.1 11))), ((ad 14), arE ty 40 (f_X1_copyFrom_v (u.1 12) (uq.1 12))), ((ad 15), roE (uq.2 2) (ad 16) (ad 17) (ad 18)), ((ad 16), arE ty 12 (f_X3_copyFrom_s0 (u.1 13) (uq.1 13))), ((ad 17), arE ty 12 (f_X3_copyFrom_l0 (u.1 14) (uq.1 14))), ((ad 18), arE ty 12 (f_X3_copyFrom_r0 (u.1 15) (uq.1 15))), ((ad 19), scE (uq.2 3) (ad 20) (ad 21)), ((ad 20), arE ty 10 (f_X4_copyFrom_t (u.1 16) (uq.1 16))), ((ad 21), arE ty 10 (f_X4_copyFrom_d (u.1 17) (uq.1 17))), ((adq 0), caE (uq.1 0) (adq 1) (adq 2) (adq 11) (adq 15) (adq 19)), ((adq 1), ctE (uq.1 1) (adq 2) (adq 11)), ((adq 2), waE ty (adq 3) (adq 4) (adq 5) (adq 6)), ((adq 3), whE (uq.1 2) (adq 7)), ((adq 4), whE (uq.1 3) (adq 8)), ((adq 5), whE (uq.1 4) (adq 9)), ((adq 6), whE (uq.1 5) (adq 10)), ((adq 7), arE ty 5 (uq.1 6)), ((adq 8), arE ty 5 (uq.1 7)), ((adq 9), arE ty 5 (uq.1 8)), ((adq 10), arE ty 5 (uq.1 9)), ((adq 11), loE (uq.2 0) (uq.2 1) (adq 12) (adq 13) (adq 14)), ((adq 12), arE ty 40 (uq.1 10)), ((adq 13), arE ty 40 (uq.1 11)), ((adq 14), arE ty 40 (uq.1 12)), ((adq 15), roE (uq.2 2) (adq 16) (adq 17) (adq 18)), ((adq 16), arE ty 12 (uq.1 13)), ((adq 17), arE ty 12 (uq.1 14)), ((adq 18), arE ty 12 (uq.1 15)), ((adq 19), scE (uq.2 3) (adq 20) (adq 21)), ((adq 20), arE ty 10 (uq.1 16)), ((adq 21), arE ty 10 (uq.1 17))] H locs := X
  refine lv_aload_n hx hb dX0_copyFrom_49 rfl (lv_at hl 0 rfl) ?_
  refine lv_aload_n hx hb dX0_copyFrom_50 rfl (lv_at hl 1 rfl) ?_
  refine get_ca_7 C hK X 22 rfl fl_X0_55 dX0_copyFrom_51 ?_
  refine put_ca_7 C hK X 0 rfl pl_X0_55 dX0_copyFrom_54 (fun H locs X => ?_)
  have X : Wd D A s.heap [((ad 0), caE (upd (upd (upd (u.1 0) 0 ((uq.1 0) 0)) 1 ((uq.1 0) 1)) 2 ((uq.1 0) 2)) (ad 1) (ad 2) (ad 11) (ad 15) (ad 19)), ((ad 1), ctE (f_X1_copyFrom_h (u.1 1) (uq.1 1)) (ad 2) (ad 11)), ((ad 2), waE ty (ad 3) (ad 4) (ad 5) (ad 6)), ((ad 3), whE (f_X1_copyFrom_a0 (u.1 2) (uq.1 2)) (ad 7)), ((ad 4), whE (f_X1_copyFrom_a1 (u.1 3) (uq.1 3)) (ad 8)), ((ad 5), whE (f_X1_copyFrom_a2 (u.1 4) (uq.1 4)) (ad 9)), ((ad 6), whE (f_X1_copyFrom_a3 (u.1 5) (uq.1 5)) (ad 10)), ((ad 7), arE ty 5 (f_X1_copyFrom_m0 (u.1 6) (uq.1 6))), ((ad 8), arE ty 5 (f_X1_copyFrom_m1 (u.1 7) (uq.1 7))), ((ad 9), arE ty 5 (f_X1_copyFrom_m2 (u.1 8) (uq.1 8))), ((ad 10), arE ty 5 (f_X1_copyFrom_m3 (u.1 9) (uq.1 9))), ((ad 11), loE (uq.2 0) (uq.2 1) (ad 12) (ad 13) (ad 14)), ((ad 12), arE ty 40 (f_X1_copyFrom_t (u.1 10) (uq.1 10))), ((ad 13), arE ty 40 (f_X1_copyFrom_k (u.1 11) (uq.1 11))), ((ad 14), arE ty 40 (f_X1_copyFrom_v (u.1 12) (uq.1 12))), ((ad 15), roE (uq.2 2) (ad 16) (ad 17) (ad 18)), ((ad 16), arE ty 12 (f_X3_copyFrom_s0 (u.1 13) (uq.1 13))), ((ad 17), arE ty 12 (f_X3_copyFrom_l0 (u.1 14) (uq.1 14))), ((ad 18), arE ty 12 (f_X3_copyFrom_r0 (u.1 15) (uq.1 15))), ((ad 19), scE (uq.2 3) (ad 20) (ad 21)), ((ad 20), arE ty 10 (f_X4_copyFrom_t (u.1 16) (uq.1 16))), ((ad 21), arE ty 10 (f_X4_copyFrom_d (u.1 17) (uq.1 17))), ((adq 0), caE (uq.1 0) (adq 1) (adq 2) (adq 11) (adq 15) (adq 19)), ((adq 1), ctE (uq.1 1) (adq 2) (adq 11)), ((adq 2), waE ty (adq 3) (adq 4) (adq 5) (adq 6)), ((adq 3), whE (uq.1 2) (adq 7)), ((adq 4), whE (uq.1 3) (adq 8)), ((adq 5), whE (uq.1 4) (adq 9)), ((adq 6), whE (uq.1 5) (adq 10)), ((adq 7), arE ty 5 (uq.1 6)), ((adq 8), arE ty 5 (uq.1 7)), ((adq 9), arE ty 5 (uq.1 8)), ((adq 10), arE ty 5 (uq.1 9)), ((adq 11), loE (uq.2 0) (uq.2 1) (adq 12) (adq 13) (adq 14)), ((adq 12), arE ty 40 (uq.1 10)), ((adq 13), arE ty 40 (uq.1 11)), ((adq 14), arE ty 40 (uq.1 12)), ((adq 15), roE (uq.2 2) (adq 16) (adq 17) (adq 18)), ((adq 16), arE ty 12 (uq.1 13)), ((adq 17), arE ty 12 (uq.1 14)), ((adq 18), arE ty 12 (uq.1 15)), ((adq 19), scE (uq.2 3) (adq 20) (adq 21)), ((adq 20), arE ty 10 (uq.1 16)), ((adq 21), arE ty 10 (uq.1 17))] H locs := X
  refine lv_aload_n hx hb dX0_copyFrom_57 rfl (lv_at hl 0 rfl) ?_
  refine lv_aload_n hx hb dX0_copyFrom_58 rfl (lv_at hl 1 rfl) ?_
  refine get_ca_8 C hK X 22 rfl fl_X0_58 dX0_copyFrom_59 ?_
  refine put_ca_8 C hK X 0 rfl pl_X0_58 dX0_copyFrom_62 (fun H locs X => ?_)
  have X : Wd D A s.heap [((ad 0), caE (upd (upd (upd (upd (u.1 0) 0 ((uq.1 0) 0)) 1 ((uq.1 0) 1)) 2 ((uq.1 0) 2)) 3 ((uq.1 0) 3)) (ad 1) (ad 2) (ad 11) (ad 15) (ad 19)), ((ad 1), ctE (f_X1_copyFrom_h (u.1 1) (uq.1 1)) (ad 2) (ad 11)), ((ad 2), waE ty (ad 3) (ad 4) (ad 5) (ad 6)), ((ad 3), whE (f_X1_copyFrom_a0 (u.1 2) (uq.1 2)) (ad 7)), ((ad 4), whE (f_X1_copyFrom_a1 (u.1 3) (uq.1 3)) (ad 8)), ((ad 5), whE (f_X1_copyFrom_a2 (u.1 4) (uq.1 4)) (ad 9)), ((ad 6), whE (f_X1_copyFrom_a3 (u.1 5) (uq.1 5)) (ad 10)), ((ad 7), arE ty 5 (f_X1_copyFrom_m0 (u.1 6) (uq.1 6))), ((ad 8), arE ty 5 (f_X1_copyFrom_m1 (u.1 7) (uq.1 7))), ((ad 9), arE ty 5 (f_X1_copyFrom_m2 (u.1 8) (uq.1 8))), ((ad 10), arE ty 5 (f_X1_copyFrom_m3 (u.1 9) (uq.1 9))), ((ad 11), loE (uq.2 0) (uq.2 1) (ad 12) (ad 13) (ad 14)), ((ad 12), arE ty 40 (f_X1_copyFrom_t (u.1 10) (uq.1 10))), ((ad 13), arE ty 40 (f_X1_copyFrom_k (u.1 11) (uq.1 11))), ((ad 14), arE ty 40 (f_X1_copyFrom_v (u.1 12) (uq.1 12))), ((ad 15), roE (uq.2 2) (ad 16) (ad 17) (ad 18)), ((ad 16), arE ty 12 (f_X3_copyFrom_s0 (u.1 13) (uq.1 13))), ((ad 17), arE ty 12 (f_X3_copyFrom_l0 (u.1 14) (uq.1 14))), ((ad 18), arE ty 12 (f_X3_copyFrom_r0 (u.1 15) (uq.1 15))), ((ad 19), scE (uq.2 3) (ad 20) (ad 21)), ((ad 20), arE ty 10 (f_X4_copyFrom_t (u.1 16) (uq.1 16))), ((ad 21), arE ty 10 (f_X4_copyFrom_d (u.1 17) (uq.1 17))), ((adq 0), caE (uq.1 0) (adq 1) (adq 2) (adq 11) (adq 15) (adq 19)), ((adq 1), ctE (uq.1 1) (adq 2) (adq 11)), ((adq 2), waE ty (adq 3) (adq 4) (adq 5) (adq 6)), ((adq 3), whE (uq.1 2) (adq 7)), ((adq 4), whE (uq.1 3) (adq 8)), ((adq 5), whE (uq.1 4) (adq 9)), ((adq 6), whE (uq.1 5) (adq 10)), ((adq 7), arE ty 5 (uq.1 6)), ((adq 8), arE ty 5 (uq.1 7)), ((adq 9), arE ty 5 (uq.1 8)), ((adq 10), arE ty 5 (uq.1 9)), ((adq 11), loE (uq.2 0) (uq.2 1) (adq 12) (adq 13) (adq 14)), ((adq 12), arE ty 40 (uq.1 10)), ((adq 13), arE ty 40 (uq.1 11)), ((adq 14), arE ty 40 (uq.1 12)), ((adq 15), roE (uq.2 2) (adq 16) (adq 17) (adq 18)), ((adq 16), arE ty 12 (uq.1 13)), ((adq 17), arE ty 12 (uq.1 14)), ((adq 18), arE ty 12 (uq.1 15)), ((adq 19), scE (uq.2 3) (adq 20) (adq 21)), ((adq 20), arE ty 10 (uq.1 16)), ((adq 21), arE ty 10 (uq.1 17))] H locs := X
  have e_0_0 : (f_X0_copyFrom_ad0 u uq) = (upd (upd (upd (upd (u.1 0) 0 ((uq.1 0) 0)) 1 ((uq.1 0) 1)) 2 ((uq.1 0) 2)) 3 ((uq.1 0) 3)) := by first | (rw [f_X0_copyFrom_ad0]; done) | (rw [f_X0_copyFrom_ad0]; rfl) | (simp only [f_X0_copyFrom_ad0]; done)
  have e_1_0 : (f_X0_copyFrom_ad1 u uq) = (f_X1_copyFrom_h (u.1 1) (uq.1 1)) := by first | (rw [f_X0_copyFrom_ad1]; done) | (rw [f_X0_copyFrom_ad1]; rfl) | (simp only [f_X0_copyFrom_ad1]; done)
  have e_3_0 : (f_X0_copyFrom_ad3 u uq) = (f_X1_copyFrom_a0 (u.1 2) (uq.1 2)) := by first | (rw [f_X0_copyFrom_ad3]; done) | (rw [f_X0_copyFrom_ad3]; rfl) | (simp only [f_X0_copyFrom_ad3]; done)
  have e_4_0 : (f_X0_copyFrom_ad4 u uq) = (f_X1_copyFrom_a1 (u.1 3) (uq.1 3)) := by first | (rw [f_X0_copyFrom_ad4]; done) | (rw [f_X0_copyFrom_ad4]; rfl) | (simp only [f_X0_copyFrom_ad4]; done)
  have e_5_0 : (f_X0_copyFrom_ad5 u uq) = (f_X1_copyFrom_a2 (u.1 4) (uq.1 4)) := by first | (rw [f_X0_copyFrom_ad5]; done) | (rw [f_X0_copyFrom_ad5]; rfl) | (simp only [f_X0_copyFrom_ad5]; done)
  have e_6_0 : (f_X0_copyFrom_ad6 u uq) = (f_X1_copyFrom_a3 (u.1 5) (uq.1 5)) := by first | (rw [f_X0_copyFrom_ad6]; done) | (rw [f_X0_copyFrom_ad6]; rfl) | (simp only [f_X0_copyFrom_ad6]; done)
  have e_7_1 : (f_X0_copyFrom_ad7 u uq) = (f_X1_copyFrom_m0 (u.1 6) (uq.1 6)) := by first | (rw [f_X0_copyFrom_ad7]; done) | (rw [f_X0_copyFrom_ad7]; rfl) | (simp only [f_X0_copyFrom_ad7]; done)
  have e_8_1 : (f_X0_copyFrom_ad8 u uq) = (f_X1_copyFrom_m1 (u.1 7) (uq.1 7)) := by first | (rw [f_X0_copyFrom_ad8]; done) | (rw [f_X0_copyFrom_ad8]; rfl) | (simp only [f_X0_copyFrom_ad8]; done)
  have e_9_1 : (f_X0_copyFrom_ad9 u uq) = (f_X1_copyFrom_m2 (u.1 8) (uq.1 8)) := by first | (rw [f_X0_copyFrom_ad9]; done) | (rw [f_X0_copyFrom_ad9]; rfl) | (simp only [f_X0_copyFrom_ad9]; done)
  have e_10_1 : (f_X0_copyFrom_ad10 u uq) = (f_X1_copyFrom_m3 (u.1 9) (uq.1 9)) := by first | (rw [f_X0_copyFrom_ad10]; done) | (rw [f_X0_copyFrom_ad10]; rfl) | (simp only [f_X0_copyFrom_ad10]; done)
  have e_11_0 : (f_X0_copyFrom_ad11_fi uq) = (uq.2 0) := by first | (rw [f_X0_copyFrom_ad11_fi]; done) | (rw [f_X0_copyFrom_ad11_fi]; rfl) | (simp only [f_X0_copyFrom_ad11_fi]; done)
  have e_11_1 : (f_X0_copyFrom_ad11_lc uq) = (uq.2 1) := by first | (rw [f_X0_copyFrom_ad11_lc]; done) | (rw [f_X0_copyFrom_ad11_lc]; rfl) | (simp only [f_X0_copyFrom_ad11_lc]; done)
  have e_12_1 : (f_X0_copyFrom_ad12 u uq) = (f_X1_copyFrom_t (u.1 10) (uq.1 10)) := by first | (rw [f_X0_copyFrom_ad12]; done) | (rw [f_X0_copyFrom_ad12]; rfl) | (simp only [f_X0_copyFrom_ad12]; done)
  have e_13_1 : (f_X0_copyFrom_ad13 u uq) = (f_X1_copyFrom_k (u.1 11) (uq.1 11)) := by first | (rw [f_X0_copyFrom_ad13]; done) | (rw [f_X0_copyFrom_ad13]; rfl) | (simp only [f_X0_copyFrom_ad13]; done)
  have e_14_1 : (f_X0_copyFrom_ad14 u uq) = (f_X1_copyFrom_v (u.1 12) (uq.1 12)) := by first | (rw [f_X0_copyFrom_ad14]; done) | (rw [f_X0_copyFrom_ad14]; rfl) | (simp only [f_X0_copyFrom_ad14]; done)
  have e_15_0 : (f_X0_copyFrom_ad15_cn uq) = (uq.2 2) := by first | (rw [f_X0_copyFrom_ad15_cn]; done) | (rw [f_X0_copyFrom_ad15_cn]; rfl) | (simp only [f_X0_copyFrom_ad15_cn]; done)
  have e_16_1 : (f_X0_copyFrom_ad16 u uq) = (f_X3_copyFrom_s0 (u.1 13) (uq.1 13)) := by first | (rw [f_X0_copyFrom_ad16]; done) | (rw [f_X0_copyFrom_ad16]; rfl) | (simp only [f_X0_copyFrom_ad16]; done)
  have e_17_1 : (f_X0_copyFrom_ad17 u uq) = (f_X3_copyFrom_l0 (u.1 14) (uq.1 14)) := by first | (rw [f_X0_copyFrom_ad17]; done) | (rw [f_X0_copyFrom_ad17]; rfl) | (simp only [f_X0_copyFrom_ad17]; done)
  have e_18_1 : (f_X0_copyFrom_ad18 u uq) = (f_X3_copyFrom_r0 (u.1 15) (uq.1 15)) := by first | (rw [f_X0_copyFrom_ad18]; done) | (rw [f_X0_copyFrom_ad18]; rfl) | (simp only [f_X0_copyFrom_ad18]; done)
  have e_19_0 : (f_X0_copyFrom_ad19_pn uq) = (uq.2 3) := by first | (rw [f_X0_copyFrom_ad19_pn]; done) | (rw [f_X0_copyFrom_ad19_pn]; rfl) | (simp only [f_X0_copyFrom_ad19_pn]; done)
  have e_20_1 : (f_X0_copyFrom_ad20 u uq) = (f_X4_copyFrom_t (u.1 16) (uq.1 16)) := by first | (rw [f_X0_copyFrom_ad20]; done) | (rw [f_X0_copyFrom_ad20]; rfl) | (simp only [f_X0_copyFrom_ad20]; done)
  have e_21_1 : (f_X0_copyFrom_ad21 u uq) = (f_X4_copyFrom_d (u.1 17) (uq.1 17)) := by first | (rw [f_X0_copyFrom_ad21]; done) | (rw [f_X0_copyFrom_ad21]; rfl) | (simp only [f_X0_copyFrom_ad21]; done)
  exact hret _ _ _ _ _ dX0_copyFrom_65 X (by rw [e_0_0, e_1_0, e_3_0, e_4_0, e_5_0, e_6_0, e_7_1, e_8_1, e_9_1, e_10_1, e_11_0, e_11_1, e_12_1, e_13_1, e_14_1, e_15_0, e_16_1, e_17_1, e_18_1, e_19_0, e_20_1, e_21_1])
def b_X0_copyFrom_u_r (u : CarS) (uq : CarS) : Nat → F1
  | 0 => (f_X0_copyFrom_ad0 u uq)
  | 1 => (f_X0_copyFrom_ad1 u uq)
  | 2 => (f_X0_copyFrom_ad3 u uq)
  | 3 => (f_X0_copyFrom_ad4 u uq)
  | 4 => (f_X0_copyFrom_ad5 u uq)
  | 5 => (f_X0_copyFrom_ad6 u uq)
  | 6 => (f_X0_copyFrom_ad7 u uq)
  | 7 => (f_X0_copyFrom_ad8 u uq)
  | 8 => (f_X0_copyFrom_ad9 u uq)
  | 9 => (f_X0_copyFrom_ad10 u uq)
  | 10 => (f_X0_copyFrom_ad12 u uq)
  | 11 => (f_X0_copyFrom_ad13 u uq)
  | 12 => (f_X0_copyFrom_ad14 u uq)
  | 13 => (f_X0_copyFrom_ad16 u uq)
  | 14 => (f_X0_copyFrom_ad17 u uq)
  | 15 => (f_X0_copyFrom_ad18 u uq)
  | 16 => (f_X0_copyFrom_ad20 u uq)
  | 17 => (f_X0_copyFrom_ad21 u uq)
  | j => u.1 j
def b_X0_copyFrom_u_n (u : CarS) (uq : CarS) : Nat → Nat
  | 0 => (f_X0_copyFrom_ad11_fi uq)
  | 1 => (f_X0_copyFrom_ad11_lc uq)
  | 2 => (f_X0_copyFrom_ad15_cn uq)
  | 3 => (f_X0_copyFrom_ad19_pn uq)
  | j => u.2 j
def b_X0_copyFrom_u (u : CarS) (uq : CarS) : CarS := (b_X0_copyFrom_u_r u uq, b_X0_copyFrom_u_n u uq)
theorem b_X0_copyFrom_u_f1 (u : CarS) (uq : CarS) : (b_X0_copyFrom_u u uq).1 = b_X0_copyFrom_u_r u uq := rfl
theorem b_X0_copyFrom_u_f2 (u : CarS) (uq : CarS) : (b_X0_copyFrom_u u uq).2 = b_X0_copyFrom_u_n u uq := rfl
theorem b_X0_copyFrom_u_r0 (u : CarS) (uq : CarS) : (b_X0_copyFrom_u u uq).1 0 = (f_X0_copyFrom_ad0 u uq) := by rw [b_X0_copyFrom_u_f1, b_X0_copyFrom_u_r]
theorem b_X0_copyFrom_u_r1 (u : CarS) (uq : CarS) : (b_X0_copyFrom_u u uq).1 1 = (f_X0_copyFrom_ad1 u uq) := by rw [b_X0_copyFrom_u_f1, b_X0_copyFrom_u_r]
theorem b_X0_copyFrom_u_r2 (u : CarS) (uq : CarS) : (b_X0_copyFrom_u u uq).1 2 = (f_X0_copyFrom_ad3 u uq) := by rw [b_X0_copyFrom_u_f1, b_X0_copyFrom_u_r]
theorem b_X0_copyFrom_u_r3 (u : CarS) (uq : CarS) : (b_X0_copyFrom_u u uq).1 3 = (f_X0_copyFrom_ad4 u uq) := by rw [b_X0_copyFrom_u_f1, b_X0_copyFrom_u_r]
theorem b_X0_copyFrom_u_r4 (u : CarS) (uq : CarS) : (b_X0_copyFrom_u u uq).1 4 = (f_X0_copyFrom_ad5 u uq) := by rw [b_X0_copyFrom_u_f1, b_X0_copyFrom_u_r]
theorem b_X0_copyFrom_u_r5 (u : CarS) (uq : CarS) : (b_X0_copyFrom_u u uq).1 5 = (f_X0_copyFrom_ad6 u uq) := by rw [b_X0_copyFrom_u_f1, b_X0_copyFrom_u_r]
theorem b_X0_copyFrom_u_r6 (u : CarS) (uq : CarS) : (b_X0_copyFrom_u u uq).1 6 = (f_X0_copyFrom_ad7 u uq) := by rw [b_X0_copyFrom_u_f1, b_X0_copyFrom_u_r]
theorem b_X0_copyFrom_u_r7 (u : CarS) (uq : CarS) : (b_X0_copyFrom_u u uq).1 7 = (f_X0_copyFrom_ad8 u uq) := by rw [b_X0_copyFrom_u_f1, b_X0_copyFrom_u_r]
theorem b_X0_copyFrom_u_r8 (u : CarS) (uq : CarS) : (b_X0_copyFrom_u u uq).1 8 = (f_X0_copyFrom_ad9 u uq) := by rw [b_X0_copyFrom_u_f1, b_X0_copyFrom_u_r]
theorem b_X0_copyFrom_u_r9 (u : CarS) (uq : CarS) : (b_X0_copyFrom_u u uq).1 9 = (f_X0_copyFrom_ad10 u uq) := by rw [b_X0_copyFrom_u_f1, b_X0_copyFrom_u_r]
theorem b_X0_copyFrom_u_r10 (u : CarS) (uq : CarS) : (b_X0_copyFrom_u u uq).1 10 = (f_X0_copyFrom_ad12 u uq) := by rw [b_X0_copyFrom_u_f1, b_X0_copyFrom_u_r]
theorem b_X0_copyFrom_u_r11 (u : CarS) (uq : CarS) : (b_X0_copyFrom_u u uq).1 11 = (f_X0_copyFrom_ad13 u uq) := by rw [b_X0_copyFrom_u_f1, b_X0_copyFrom_u_r]
theorem b_X0_copyFrom_u_r12 (u : CarS) (uq : CarS) : (b_X0_copyFrom_u u uq).1 12 = (f_X0_copyFrom_ad14 u uq) := by rw [b_X0_copyFrom_u_f1, b_X0_copyFrom_u_r]
theorem b_X0_copyFrom_u_r13 (u : CarS) (uq : CarS) : (b_X0_copyFrom_u u uq).1 13 = (f_X0_copyFrom_ad16 u uq) := by rw [b_X0_copyFrom_u_f1, b_X0_copyFrom_u_r]
theorem b_X0_copyFrom_u_r14 (u : CarS) (uq : CarS) : (b_X0_copyFrom_u u uq).1 14 = (f_X0_copyFrom_ad17 u uq) := by rw [b_X0_copyFrom_u_f1, b_X0_copyFrom_u_r]
theorem b_X0_copyFrom_u_r15 (u : CarS) (uq : CarS) : (b_X0_copyFrom_u u uq).1 15 = (f_X0_copyFrom_ad18 u uq) := by rw [b_X0_copyFrom_u_f1, b_X0_copyFrom_u_r]
theorem b_X0_copyFrom_u_r16 (u : CarS) (uq : CarS) : (b_X0_copyFrom_u u uq).1 16 = (f_X0_copyFrom_ad20 u uq) := by rw [b_X0_copyFrom_u_f1, b_X0_copyFrom_u_r]
theorem b_X0_copyFrom_u_r17 (u : CarS) (uq : CarS) : (b_X0_copyFrom_u u uq).1 17 = (f_X0_copyFrom_ad21 u uq) := by rw [b_X0_copyFrom_u_f1, b_X0_copyFrom_u_r]
theorem b_X0_copyFrom_u_n0 (u : CarS) (uq : CarS) : (b_X0_copyFrom_u u uq).2 0 = (f_X0_copyFrom_ad11_fi uq) := by rw [b_X0_copyFrom_u_f2, b_X0_copyFrom_u_n]
theorem b_X0_copyFrom_u_n1 (u : CarS) (uq : CarS) : (b_X0_copyFrom_u u uq).2 1 = (f_X0_copyFrom_ad11_lc uq) := by rw [b_X0_copyFrom_u_f2, b_X0_copyFrom_u_n]
theorem b_X0_copyFrom_u_n2 (u : CarS) (uq : CarS) : (b_X0_copyFrom_u u uq).2 2 = (f_X0_copyFrom_ad15_cn uq) := by rw [b_X0_copyFrom_u_f2, b_X0_copyFrom_u_n]
theorem b_X0_copyFrom_u_n3 (u : CarS) (uq : CarS) : (b_X0_copyFrom_u u uq).2 3 = (f_X0_copyFrom_ad19_pn uq) := by rw [b_X0_copyFrom_u_f2, b_X0_copyFrom_u_n]
set_option maxHeartbeats 4000000 in
set_option maxRecDepth 100000 in
theorem c_X0_copyFromB (l : Launch) (D : va_G) (ty : Nat → ClassId) (ad : Nat → Nat) (u : CarS) (adq : Nat → Nat) (uq : CarS) (hB : BOK uq) : MC l D ty yX0_copyFrom cX0_copyFrom 2 none 3 [.ref (ad 0), .ref (adq 0)] [((ad 0), caE (u.1 0) (ad 1) (ad 2) (ad 11) (ad 15) (ad 19)), ((ad 1), ctE (u.1 1) (ad 2) (ad 11)), ((ad 2), waE ty (ad 3) (ad 4) (ad 5) (ad 6)), ((ad 3), whE (u.1 2) (ad 7)), ((ad 4), whE (u.1 3) (ad 8)), ((ad 5), whE (u.1 4) (ad 9)), ((ad 6), whE (u.1 5) (ad 10)), ((ad 7), arE ty 5 (u.1 6)), ((ad 8), arE ty 5 (u.1 7)), ((ad 9), arE ty 5 (u.1 8)), ((ad 10), arE ty 5 (u.1 9)), ((ad 11), loE (u.2 0) (u.2 1) (ad 12) (ad 13) (ad 14)), ((ad 12), arE ty 40 (u.1 10)), ((ad 13), arE ty 40 (u.1 11)), ((ad 14), arE ty 40 (u.1 12)), ((ad 15), roE (u.2 2) (ad 16) (ad 17) (ad 18)), ((ad 16), arE ty 12 (u.1 13)), ((ad 17), arE ty 12 (u.1 14)), ((ad 18), arE ty 12 (u.1 15)), ((ad 19), scE (u.2 3) (ad 20) (ad 21)), ((ad 20), arE ty 10 (u.1 16)), ((ad 21), arE ty 10 (u.1 17)), ((adq 0), caE (uq.1 0) (adq 1) (adq 2) (adq 11) (adq 15) (adq 19)), ((adq 1), ctE (uq.1 1) (adq 2) (adq 11)), ((adq 2), waE ty (adq 3) (adq 4) (adq 5) (adq 6)), ((adq 3), whE (uq.1 2) (adq 7)), ((adq 4), whE (uq.1 3) (adq 8)), ((adq 5), whE (uq.1 4) (adq 9)), ((adq 6), whE (uq.1 5) (adq 10)), ((adq 7), arE ty 5 (uq.1 6)), ((adq 8), arE ty 5 (uq.1 7)), ((adq 9), arE ty 5 (uq.1 8)), ((adq 10), arE ty 5 (uq.1 9)), ((adq 11), loE (uq.2 0) (uq.2 1) (adq 12) (adq 13) (adq 14)), ((adq 12), arE ty 40 (uq.1 10)), ((adq 13), arE ty 40 (uq.1 11)), ((adq 14), arE ty 40 (uq.1 12)), ((adq 15), roE (uq.2 2) (adq 16) (adq 17) (adq 18)), ((adq 16), arE ty 12 (uq.1 13)), ((adq 17), arE ty 12 (uq.1 14)), ((adq 18), arE ty 12 (uq.1 15)), ((adq 19), scE (uq.2 3) (adq 20) (adq 21)), ((adq 20), arE ty 10 (uq.1 16)), ((adq 21), arE ty 10 (uq.1 17))] none [((ad 0), caE ((b_X0_copyFrom_u u uq).1 0) (ad 1) (ad 2) (ad 11) (ad 15) (ad 19)), ((ad 1), ctE ((b_X0_copyFrom_u u uq).1 1) (ad 2) (ad 11)), ((ad 2), waE ty (ad 3) (ad 4) (ad 5) (ad 6)), ((ad 3), whE ((b_X0_copyFrom_u u uq).1 2) (ad 7)), ((ad 4), whE ((b_X0_copyFrom_u u uq).1 3) (ad 8)), ((ad 5), whE ((b_X0_copyFrom_u u uq).1 4) (ad 9)), ((ad 6), whE ((b_X0_copyFrom_u u uq).1 5) (ad 10)), ((ad 7), arE ty 5 ((b_X0_copyFrom_u u uq).1 6)), ((ad 8), arE ty 5 ((b_X0_copyFrom_u u uq).1 7)), ((ad 9), arE ty 5 ((b_X0_copyFrom_u u uq).1 8)), ((ad 10), arE ty 5 ((b_X0_copyFrom_u u uq).1 9)), ((ad 11), loE ((b_X0_copyFrom_u u uq).2 0) ((b_X0_copyFrom_u u uq).2 1) (ad 12) (ad 13) (ad 14)), ((ad 12), arE ty 40 ((b_X0_copyFrom_u u uq).1 10)), ((ad 13), arE ty 40 ((b_X0_copyFrom_u u uq).1 11)), ((ad 14), arE ty 40 ((b_X0_copyFrom_u u uq).1 12)), ((ad 15), roE ((b_X0_copyFrom_u u uq).2 2) (ad 16) (ad 17) (ad 18)), ((ad 16), arE ty 12 ((b_X0_copyFrom_u u uq).1 13)), ((ad 17), arE ty 12 ((b_X0_copyFrom_u u uq).1 14)), ((ad 18), arE ty 12 ((b_X0_copyFrom_u u uq).1 15)), ((ad 19), scE ((b_X0_copyFrom_u u uq).2 3) (ad 20) (ad 21)), ((ad 20), arE ty 10 ((b_X0_copyFrom_u u uq).1 16)), ((ad 21), arE ty 10 ((b_X0_copyFrom_u u uq).1 17)), ((adq 0), caE (uq.1 0) (adq 1) (adq 2) (adq 11) (adq 15) (adq 19)), ((adq 1), ctE (uq.1 1) (adq 2) (adq 11)), ((adq 2), waE ty (adq 3) (adq 4) (adq 5) (adq 6)), ((adq 3), whE (uq.1 2) (adq 7)), ((adq 4), whE (uq.1 3) (adq 8)), ((adq 5), whE (uq.1 4) (adq 9)), ((adq 6), whE (uq.1 5) (adq 10)), ((adq 7), arE ty 5 (uq.1 6)), ((adq 8), arE ty 5 (uq.1 7)), ((adq 9), arE ty 5 (uq.1 8)), ((adq 10), arE ty 5 (uq.1 9)), ((adq 11), loE (uq.2 0) (uq.2 1) (adq 12) (adq 13) (adq 14)), ((adq 12), arE ty 40 (uq.1 10)), ((adq 13), arE ty 40 (uq.1 11)), ((adq 14), arE ty 40 (uq.1 12)), ((adq 15), roE (uq.2 2) (adq 16) (adq 17) (adq 18)), ((adq 16), arE ty 12 (uq.1 13)), ((adq 17), arE ty 12 (uq.1 14)), ((adq 18), arE ty 12 (uq.1 15)), ((adq 19), scE (uq.2 3) (adq 20) (adq 21)), ((adq 20), arE ty 10 (uq.1 16)), ((adq 21), arE ty 10 (uq.1 17))] := by
  simp only [b_X0_copyFrom_u_r0, b_X0_copyFrom_u_r1, b_X0_copyFrom_u_r2, b_X0_copyFrom_u_r3, b_X0_copyFrom_u_r4, b_X0_copyFrom_u_r5, b_X0_copyFrom_u_r6, b_X0_copyFrom_u_r7, b_X0_copyFrom_u_r8, b_X0_copyFrom_u_r9, b_X0_copyFrom_u_r10, b_X0_copyFrom_u_r11, b_X0_copyFrom_u_r12, b_X0_copyFrom_u_r13, b_X0_copyFrom_u_r14, b_X0_copyFrom_u_r15, b_X0_copyFrom_u_r16, b_X0_copyFrom_u_r17, b_X0_copyFrom_u_n0, b_X0_copyFrom_u_n1, b_X0_copyFrom_u_n2, b_X0_copyFrom_u_n3]
  exact c_X0_copyFrom l D ty ad u adq uq hB
def f_X0_gripOfWheel_0 (cn : Nat) (g : F1) (w0 : F1) (rs : F1) (rl : F1) (rr : F1) : Int32 := (f_X6_gripFor (f_X3_surfaceAt cn rs rl rr (g 1) 1) (f_X5_slip w0 (g 0)))
set_option maxHeartbeats 4000000 in
set_option maxRecDepth 100000 in
theorem c_X0_gripOfWheel_0 (l : Launch) (D : va_G) (ty : Nat → ClassId) (hc : Nat) (h : Nat) (aw : Nat) (al : Nat) (hr : Nat) (hs : Nat) (a0 : Nat) (a1 : Nat) (a2 : Nat) (a3 : Nat) (m0 : Nat) (s0 : Nat) (l0 : Nat) (r0 : Nat) (cn : Nat) (g : F1) (w0 : F1) (rs : F1) (rl : F1) (rr : F1) (hd : rdOK cn) : MC l D ty yX0_gripOfWheel cX0_gripOfWheel 3 (some .int) 2 [.ref hc, .int 0] [(hc, caE g h aw al hr hs), (aw, waE ty a0 a1 a2 a3), (a0, whE w0 m0), (hr, roE cn s0 l0 r0), (s0, arE ty 12 rs), (l0, arE ty 12 rl), (r0, arE ty 12 rr)] (some (.int (f_X0_gripOfWheel_0 cn g w0 rs rl rr))) [(hc, caE g h aw al hr hs), (aw, waE ty a0 a1 a2 a3), (a0, whE w0 m0), (hr, roE cn s0 l0 r0), (s0, arE ty 12 rs), (l0, arE ty 12 rl), (r0, arE ty 12 rr)] := by
  refine mc_i (by decide +kernel) (Nat.le_of_ble_eq_true rfl) ?_
  intro p e s m args below meth c A Q ls C hK hA X hret hl
  have hx := C.1
  have hb := C.2.1
  have hl : lv_has ls 3 [(0, .ref hc), (1, .int 0)] := hl
  have X : Wd D A s.heap [(hc, caE g h aw al hr hs), (aw, waE ty a0 a1 a2 a3), (a0, whE w0 m0), (hr, roE cn s0 l0 r0), (s0, arE ty 12 rs), (l0, arE ty 12 rl), (r0, arE ty 12 rr)] s.heap [] := X
  refine lv_iload_n hx hb dX0_gripOfWheel_0 rfl (lv_at hl 1 rfl) ?_
  refine lv_iconst (v := 2) hx hb dX0_gripOfWheel_1 (by decide) ?_
  refine lv_irem hx hb dX0_gripOfWheel_2 (by decide) ?_
  refine s_eqi (y := 0) (by decide) ?_
  refine lv_if_ne (tgt := 10) hx hb dX0_gripOfWheel_3 (by decide) (fun c0 => absurd (by decide) c0) (fun _ => ?_)
  refine lv_iconst (v := 1) hx hb dX0_gripOfWheel_6 (by decide) ?_
  refine lv_goto (tgt := 11) hx hb dX0_gripOfWheel_7 (by decide) ?_
  refine lv_istore_n (lv' := [(2, .int 1), (0, .ref hc), (1, .int 0)]) hx hb dX0_gripOfWheel_11 rfl hl (by decide) rfl (fun ls hl => ?_)
  refine lv_aload_n hx hb dX0_gripOfWheel_12 rfl (lv_at hl 1 rfl) ?_
  refine get_ca_3 C hK X 0 rfl fl_X0_31 dX0_gripOfWheel_13 ?_
  refine lv_aload_n hx hb dX0_gripOfWheel_16 rfl (lv_at hl 1 rfl) ?_
  refine get_ca_6 C hK X 0 rfl fl_X0_52 dX0_gripOfWheel_17 ?_
  refine lv_iload_n hx hb dX0_gripOfWheel_20 rfl (lv_at hl 0 rfl) ?_
  refine s_cV0i C hK hA X (c_X3_surfaceAt l D ty hr s0 l0 r0 cn rs rl rr (g 1) 1 hd) [3, 4, 5, 6] (pk_c rfl (pk_c rfl (pk_c rfl (pk_c rfl pk_n)))) rfl ml_X3_surfaceAt wm_X0_116 (q0 := 0) rfl rfl rfl ⟨Nat.le_of_ble_eq_true rfl, Nat.le_of_ble_eq_true rfl⟩ ⟨Nat.zero_le _, Nat.zero_le _⟩ hl.1 rfl (Nat.le_of_ble_eq_true rfl) dX0_gripOfWheel_21 (fun H locs X => ?_)
  refine lv_aload_n hx hb dX0_gripOfWheel_24 rfl (lv_at hl 1 rfl) ?_
  refine get_ca_1 C hK X 0 rfl fl_X0_22 dX0_gripOfWheel_25 ?_
  refine lv_iload_n hx hb dX0_gripOfWheel_28 rfl (lv_at hl 2 rfl) ?_
  refine s_aald (t0 := 2) (b := a0) C hK X 1 rfl rfl (vp_in_nI (n := 0) (by decide) (by decide)) rfl dX0_gripOfWheel_29 ?_
  refine lv_aload_n hx hb dX0_gripOfWheel_30 rfl (lv_at hl 1 rfl) ?_
  refine get_ca_5 C hK X 0 rfl fl_X0_48 dX0_gripOfWheel_31 ?_
  refine s_cV0i C hK hA X (c_X5_slip l D ty a0 m0 w0 (g 0)) [2] (pk_c rfl pk_n) rfl ml_X5_slip wm_X0_120 (q0 := 0) rfl rfl rfl ⟨Nat.le_of_ble_eq_true rfl, Nat.le_of_ble_eq_true rfl⟩ ⟨Nat.zero_le _, Nat.zero_le _⟩ hl.1 rfl (Nat.le_of_ble_eq_true rfl) dX0_gripOfWheel_34 (fun H locs X => ?_)
  refine s_cN0i C hK hA X (c_X6_gripFor l D ty (f_X3_surfaceAt cn rs rl rr (g 1) 1) (f_X5_slip w0 (g 0))) [] pk_n rfl sl_X6_gripFor nw_X0_123 ⟨Nat.le_of_ble_eq_true rfl, Nat.le_of_ble_eq_true rfl⟩ ⟨Nat.zero_le _, Nat.zero_le _⟩ hl.1 rfl (Nat.le_of_ble_eq_true rfl) dX0_gripOfWheel_37 (fun H locs X => ?_)
  exact hret _ _ _ _ _ _ dX0_gripOfWheel_40 X rfl (by first | (rw [f_X0_gripOfWheel_0]; done) | (rw [f_X0_gripOfWheel_0]; rfl) | (simp only [f_X0_gripOfWheel_0]; done))
def f_X0_gripOfWheel_1 (cn : Nat) (g : F1) (w1 : F1) (rs : F1) (rl : F1) (rr : F1) : Int32 := (f_X6_gripFor (f_X3_surfaceAt cn rs rl rr (g 1) 0) (f_X5_slip w1 (g 0)))
set_option maxHeartbeats 4000000 in
set_option maxRecDepth 100000 in
theorem c_X0_gripOfWheel_1 (l : Launch) (D : va_G) (ty : Nat → ClassId) (hc : Nat) (h : Nat) (aw : Nat) (al : Nat) (hr : Nat) (hs : Nat) (a0 : Nat) (a1 : Nat) (a2 : Nat) (a3 : Nat) (m1 : Nat) (s0 : Nat) (l0 : Nat) (r0 : Nat) (cn : Nat) (g : F1) (w1 : F1) (rs : F1) (rl : F1) (rr : F1) (hd : rdOK cn) : MC l D ty yX0_gripOfWheel cX0_gripOfWheel 3 (some .int) 2 [.ref hc, .int 1] [(hc, caE g h aw al hr hs), (aw, waE ty a0 a1 a2 a3), (a1, whE w1 m1), (hr, roE cn s0 l0 r0), (s0, arE ty 12 rs), (l0, arE ty 12 rl), (r0, arE ty 12 rr)] (some (.int (f_X0_gripOfWheel_1 cn g w1 rs rl rr))) [(hc, caE g h aw al hr hs), (aw, waE ty a0 a1 a2 a3), (a1, whE w1 m1), (hr, roE cn s0 l0 r0), (s0, arE ty 12 rs), (l0, arE ty 12 rl), (r0, arE ty 12 rr)] := by
  refine mc_i (by decide +kernel) (Nat.le_of_ble_eq_true rfl) ?_
  intro p e s m args below meth c A Q ls C hK hA X hret hl
  have hx := C.1
  have hb := C.2.1
  have hl : lv_has ls 3 [(0, .ref hc), (1, .int 1)] := hl
  have X : Wd D A s.heap [(hc, caE g h aw al hr hs), (aw, waE ty a0 a1 a2 a3), (a1, whE w1 m1), (hr, roE cn s0 l0 r0), (s0, arE ty 12 rs), (l0, arE ty 12 rl), (r0, arE ty 12 rr)] s.heap [] := X
  refine lv_iload_n hx hb dX0_gripOfWheel_0 rfl (lv_at hl 1 rfl) ?_
  refine lv_iconst (v := 2) hx hb dX0_gripOfWheel_1 (by decide) ?_
  refine lv_irem hx hb dX0_gripOfWheel_2 (by decide) ?_
  refine s_eqi (y := 1) (by decide) ?_
  refine lv_if_ne (tgt := 10) hx hb dX0_gripOfWheel_3 (by decide) (fun _ => ?_) (fun c0 => absurd c0 (by decide))
  refine lv_iconst (v := 0) hx hb dX0_gripOfWheel_10 (by decide) ?_
  refine lv_istore_n (lv' := [(2, .int 0), (0, .ref hc), (1, .int 1)]) hx hb dX0_gripOfWheel_11 rfl hl (by decide) rfl (fun ls hl => ?_)
  refine lv_aload_n hx hb dX0_gripOfWheel_12 rfl (lv_at hl 1 rfl) ?_
  refine get_ca_3 C hK X 0 rfl fl_X0_31 dX0_gripOfWheel_13 ?_
  refine lv_aload_n hx hb dX0_gripOfWheel_16 rfl (lv_at hl 1 rfl) ?_
  refine get_ca_6 C hK X 0 rfl fl_X0_52 dX0_gripOfWheel_17 ?_
  refine lv_iload_n hx hb dX0_gripOfWheel_20 rfl (lv_at hl 0 rfl) ?_
  refine s_cV0i C hK hA X (c_X3_surfaceAt l D ty hr s0 l0 r0 cn rs rl rr (g 1) 0 hd) [3, 4, 5, 6] (pk_c rfl (pk_c rfl (pk_c rfl (pk_c rfl pk_n)))) rfl ml_X3_surfaceAt wm_X0_116 (q0 := 0) rfl rfl rfl ⟨Nat.le_of_ble_eq_true rfl, Nat.le_of_ble_eq_true rfl⟩ ⟨Nat.zero_le _, Nat.zero_le _⟩ hl.1 rfl (Nat.le_of_ble_eq_true rfl) dX0_gripOfWheel_21 (fun H locs X => ?_)
  refine lv_aload_n hx hb dX0_gripOfWheel_24 rfl (lv_at hl 1 rfl) ?_
  refine get_ca_1 C hK X 0 rfl fl_X0_22 dX0_gripOfWheel_25 ?_
  refine lv_iload_n hx hb dX0_gripOfWheel_28 rfl (lv_at hl 2 rfl) ?_
  refine s_aald (t0 := 2) (b := a1) C hK X 1 rfl rfl (vp_in_nI (n := 1) (by decide) (by decide)) rfl dX0_gripOfWheel_29 ?_
  refine lv_aload_n hx hb dX0_gripOfWheel_30 rfl (lv_at hl 1 rfl) ?_
  refine get_ca_5 C hK X 0 rfl fl_X0_48 dX0_gripOfWheel_31 ?_
  refine s_cV0i C hK hA X (c_X5_slip l D ty a1 m1 w1 (g 0)) [2] (pk_c rfl pk_n) rfl ml_X5_slip wm_X0_120 (q0 := 0) rfl rfl rfl ⟨Nat.le_of_ble_eq_true rfl, Nat.le_of_ble_eq_true rfl⟩ ⟨Nat.zero_le _, Nat.zero_le _⟩ hl.1 rfl (Nat.le_of_ble_eq_true rfl) dX0_gripOfWheel_34 (fun H locs X => ?_)
  refine s_cN0i C hK hA X (c_X6_gripFor l D ty (f_X3_surfaceAt cn rs rl rr (g 1) 0) (f_X5_slip w1 (g 0))) [] pk_n rfl sl_X6_gripFor nw_X0_123 ⟨Nat.le_of_ble_eq_true rfl, Nat.le_of_ble_eq_true rfl⟩ ⟨Nat.zero_le _, Nat.zero_le _⟩ hl.1 rfl (Nat.le_of_ble_eq_true rfl) dX0_gripOfWheel_37 (fun H locs X => ?_)
  exact hret _ _ _ _ _ _ dX0_gripOfWheel_40 X rfl (by first | (rw [f_X0_gripOfWheel_1]; done) | (rw [f_X0_gripOfWheel_1]; rfl) | (simp only [f_X0_gripOfWheel_1]; done))
def f_X0_gripOfWheel_2 (cn : Nat) (g : F1) (w2 : F1) (rs : F1) (rl : F1) (rr : F1) : Int32 := (f_X6_gripFor (f_X3_surfaceAt cn rs rl rr (g 1) 1) (f_X5_slip w2 (g 0)))
set_option maxHeartbeats 4000000 in
set_option maxRecDepth 100000 in
theorem c_X0_gripOfWheel_2 (l : Launch) (D : va_G) (ty : Nat → ClassId) (hc : Nat) (h : Nat) (aw : Nat) (al : Nat) (hr : Nat) (hs : Nat) (a0 : Nat) (a1 : Nat) (a2 : Nat) (a3 : Nat) (m2 : Nat) (s0 : Nat) (l0 : Nat) (r0 : Nat) (cn : Nat) (g : F1) (w2 : F1) (rs : F1) (rl : F1) (rr : F1) (hd : rdOK cn) : MC l D ty yX0_gripOfWheel cX0_gripOfWheel 3 (some .int) 2 [.ref hc, .int 2] [(hc, caE g h aw al hr hs), (aw, waE ty a0 a1 a2 a3), (a2, whE w2 m2), (hr, roE cn s0 l0 r0), (s0, arE ty 12 rs), (l0, arE ty 12 rl), (r0, arE ty 12 rr)] (some (.int (f_X0_gripOfWheel_2 cn g w2 rs rl rr))) [(hc, caE g h aw al hr hs), (aw, waE ty a0 a1 a2 a3), (a2, whE w2 m2), (hr, roE cn s0 l0 r0), (s0, arE ty 12 rs), (l0, arE ty 12 rl), (r0, arE ty 12 rr)] := by
  refine mc_i (by decide +kernel) (Nat.le_of_ble_eq_true rfl) ?_
  intro p e s m args below meth c A Q ls C hK hA X hret hl
  have hx := C.1
  have hb := C.2.1
  have hl : lv_has ls 3 [(0, .ref hc), (1, .int 2)] := hl
  have X : Wd D A s.heap [(hc, caE g h aw al hr hs), (aw, waE ty a0 a1 a2 a3), (a2, whE w2 m2), (hr, roE cn s0 l0 r0), (s0, arE ty 12 rs), (l0, arE ty 12 rl), (r0, arE ty 12 rr)] s.heap [] := X
  refine lv_iload_n hx hb dX0_gripOfWheel_0 rfl (lv_at hl 1 rfl) ?_
  refine lv_iconst (v := 2) hx hb dX0_gripOfWheel_1 (by decide) ?_
  refine lv_irem hx hb dX0_gripOfWheel_2 (by decide) ?_
  refine s_eqi (y := 0) (by decide) ?_
  refine lv_if_ne (tgt := 10) hx hb dX0_gripOfWheel_3 (by decide) (fun c0 => absurd (by decide) c0) (fun _ => ?_)
  refine lv_iconst (v := 1) hx hb dX0_gripOfWheel_6 (by decide) ?_
  refine lv_goto (tgt := 11) hx hb dX0_gripOfWheel_7 (by decide) ?_
  refine lv_istore_n (lv' := [(2, .int 1), (0, .ref hc), (1, .int 2)]) hx hb dX0_gripOfWheel_11 rfl hl (by decide) rfl (fun ls hl => ?_)
  refine lv_aload_n hx hb dX0_gripOfWheel_12 rfl (lv_at hl 1 rfl) ?_
  refine get_ca_3 C hK X 0 rfl fl_X0_31 dX0_gripOfWheel_13 ?_
  refine lv_aload_n hx hb dX0_gripOfWheel_16 rfl (lv_at hl 1 rfl) ?_
  refine get_ca_6 C hK X 0 rfl fl_X0_52 dX0_gripOfWheel_17 ?_
  refine lv_iload_n hx hb dX0_gripOfWheel_20 rfl (lv_at hl 0 rfl) ?_
  refine s_cV0i C hK hA X (c_X3_surfaceAt l D ty hr s0 l0 r0 cn rs rl rr (g 1) 1 hd) [3, 4, 5, 6] (pk_c rfl (pk_c rfl (pk_c rfl (pk_c rfl pk_n)))) rfl ml_X3_surfaceAt wm_X0_116 (q0 := 0) rfl rfl rfl ⟨Nat.le_of_ble_eq_true rfl, Nat.le_of_ble_eq_true rfl⟩ ⟨Nat.zero_le _, Nat.zero_le _⟩ hl.1 rfl (Nat.le_of_ble_eq_true rfl) dX0_gripOfWheel_21 (fun H locs X => ?_)
  refine lv_aload_n hx hb dX0_gripOfWheel_24 rfl (lv_at hl 1 rfl) ?_
  refine get_ca_1 C hK X 0 rfl fl_X0_22 dX0_gripOfWheel_25 ?_
  refine lv_iload_n hx hb dX0_gripOfWheel_28 rfl (lv_at hl 2 rfl) ?_
  refine s_aald (t0 := 2) (b := a2) C hK X 1 rfl rfl (vp_in_nI (n := 2) (by decide) (by decide)) rfl dX0_gripOfWheel_29 ?_
  refine lv_aload_n hx hb dX0_gripOfWheel_30 rfl (lv_at hl 1 rfl) ?_
  refine get_ca_5 C hK X 0 rfl fl_X0_48 dX0_gripOfWheel_31 ?_
  refine s_cV0i C hK hA X (c_X5_slip l D ty a2 m2 w2 (g 0)) [2] (pk_c rfl pk_n) rfl ml_X5_slip wm_X0_120 (q0 := 0) rfl rfl rfl ⟨Nat.le_of_ble_eq_true rfl, Nat.le_of_ble_eq_true rfl⟩ ⟨Nat.zero_le _, Nat.zero_le _⟩ hl.1 rfl (Nat.le_of_ble_eq_true rfl) dX0_gripOfWheel_34 (fun H locs X => ?_)
  refine s_cN0i C hK hA X (c_X6_gripFor l D ty (f_X3_surfaceAt cn rs rl rr (g 1) 1) (f_X5_slip w2 (g 0))) [] pk_n rfl sl_X6_gripFor nw_X0_123 ⟨Nat.le_of_ble_eq_true rfl, Nat.le_of_ble_eq_true rfl⟩ ⟨Nat.zero_le _, Nat.zero_le _⟩ hl.1 rfl (Nat.le_of_ble_eq_true rfl) dX0_gripOfWheel_37 (fun H locs X => ?_)
  exact hret _ _ _ _ _ _ dX0_gripOfWheel_40 X rfl (by first | (rw [f_X0_gripOfWheel_2]; done) | (rw [f_X0_gripOfWheel_2]; rfl) | (simp only [f_X0_gripOfWheel_2]; done))
def f_X0_gripOfWheel_3 (cn : Nat) (g : F1) (w3 : F1) (rs : F1) (rl : F1) (rr : F1) : Int32 := (f_X6_gripFor (f_X3_surfaceAt cn rs rl rr (g 1) 0) (f_X5_slip w3 (g 0)))
set_option maxHeartbeats 4000000 in
set_option maxRecDepth 100000 in
theorem c_X0_gripOfWheel_3 (l : Launch) (D : va_G) (ty : Nat → ClassId) (hc : Nat) (h : Nat) (aw : Nat) (al : Nat) (hr : Nat) (hs : Nat) (a0 : Nat) (a1 : Nat) (a2 : Nat) (a3 : Nat) (m3 : Nat) (s0 : Nat) (l0 : Nat) (r0 : Nat) (cn : Nat) (g : F1) (w3 : F1) (rs : F1) (rl : F1) (rr : F1) (hd : rdOK cn) : MC l D ty yX0_gripOfWheel cX0_gripOfWheel 3 (some .int) 2 [.ref hc, .int 3] [(hc, caE g h aw al hr hs), (aw, waE ty a0 a1 a2 a3), (a3, whE w3 m3), (hr, roE cn s0 l0 r0), (s0, arE ty 12 rs), (l0, arE ty 12 rl), (r0, arE ty 12 rr)] (some (.int (f_X0_gripOfWheel_3 cn g w3 rs rl rr))) [(hc, caE g h aw al hr hs), (aw, waE ty a0 a1 a2 a3), (a3, whE w3 m3), (hr, roE cn s0 l0 r0), (s0, arE ty 12 rs), (l0, arE ty 12 rl), (r0, arE ty 12 rr)] := by
  refine mc_i (by decide +kernel) (Nat.le_of_ble_eq_true rfl) ?_
  intro p e s m args below meth c A Q ls C hK hA X hret hl
  have hx := C.1
  have hb := C.2.1
  have hl : lv_has ls 3 [(0, .ref hc), (1, .int 3)] := hl
  have X : Wd D A s.heap [(hc, caE g h aw al hr hs), (aw, waE ty a0 a1 a2 a3), (a3, whE w3 m3), (hr, roE cn s0 l0 r0), (s0, arE ty 12 rs), (l0, arE ty 12 rl), (r0, arE ty 12 rr)] s.heap [] := X
  refine lv_iload_n hx hb dX0_gripOfWheel_0 rfl (lv_at hl 1 rfl) ?_
  refine lv_iconst (v := 2) hx hb dX0_gripOfWheel_1 (by decide) ?_
  refine lv_irem hx hb dX0_gripOfWheel_2 (by decide) ?_
  refine s_eqi (y := 1) (by decide) ?_
  refine lv_if_ne (tgt := 10) hx hb dX0_gripOfWheel_3 (by decide) (fun _ => ?_) (fun c0 => absurd c0 (by decide))
  refine lv_iconst (v := 0) hx hb dX0_gripOfWheel_10 (by decide) ?_
  refine lv_istore_n (lv' := [(2, .int 0), (0, .ref hc), (1, .int 3)]) hx hb dX0_gripOfWheel_11 rfl hl (by decide) rfl (fun ls hl => ?_)
  refine lv_aload_n hx hb dX0_gripOfWheel_12 rfl (lv_at hl 1 rfl) ?_
  refine get_ca_3 C hK X 0 rfl fl_X0_31 dX0_gripOfWheel_13 ?_
  refine lv_aload_n hx hb dX0_gripOfWheel_16 rfl (lv_at hl 1 rfl) ?_
  refine get_ca_6 C hK X 0 rfl fl_X0_52 dX0_gripOfWheel_17 ?_
  refine lv_iload_n hx hb dX0_gripOfWheel_20 rfl (lv_at hl 0 rfl) ?_
  refine s_cV0i C hK hA X (c_X3_surfaceAt l D ty hr s0 l0 r0 cn rs rl rr (g 1) 0 hd) [3, 4, 5, 6] (pk_c rfl (pk_c rfl (pk_c rfl (pk_c rfl pk_n)))) rfl ml_X3_surfaceAt wm_X0_116 (q0 := 0) rfl rfl rfl ⟨Nat.le_of_ble_eq_true rfl, Nat.le_of_ble_eq_true rfl⟩ ⟨Nat.zero_le _, Nat.zero_le _⟩ hl.1 rfl (Nat.le_of_ble_eq_true rfl) dX0_gripOfWheel_21 (fun H locs X => ?_)
  refine lv_aload_n hx hb dX0_gripOfWheel_24 rfl (lv_at hl 1 rfl) ?_
  refine get_ca_1 C hK X 0 rfl fl_X0_22 dX0_gripOfWheel_25 ?_
  refine lv_iload_n hx hb dX0_gripOfWheel_28 rfl (lv_at hl 2 rfl) ?_
  refine s_aald (t0 := 2) (b := a3) C hK X 1 rfl rfl (vp_in_nI (n := 3) (by decide) (by decide)) rfl dX0_gripOfWheel_29 ?_
  refine lv_aload_n hx hb dX0_gripOfWheel_30 rfl (lv_at hl 1 rfl) ?_
  refine get_ca_5 C hK X 0 rfl fl_X0_48 dX0_gripOfWheel_31 ?_
  refine s_cV0i C hK hA X (c_X5_slip l D ty a3 m3 w3 (g 0)) [2] (pk_c rfl pk_n) rfl ml_X5_slip wm_X0_120 (q0 := 0) rfl rfl rfl ⟨Nat.le_of_ble_eq_true rfl, Nat.le_of_ble_eq_true rfl⟩ ⟨Nat.zero_le _, Nat.zero_le _⟩ hl.1 rfl (Nat.le_of_ble_eq_true rfl) dX0_gripOfWheel_34 (fun H locs X => ?_)
  refine s_cN0i C hK hA X (c_X6_gripFor l D ty (f_X3_surfaceAt cn rs rl rr (g 1) 0) (f_X5_slip w3 (g 0))) [] pk_n rfl sl_X6_gripFor nw_X0_123 ⟨Nat.le_of_ble_eq_true rfl, Nat.le_of_ble_eq_true rfl⟩ ⟨Nat.zero_le _, Nat.zero_le _⟩ hl.1 rfl (Nat.le_of_ble_eq_true rfl) dX0_gripOfWheel_37 (fun H locs X => ?_)
  exact hret _ _ _ _ _ _ dX0_gripOfWheel_40 X rfl (by first | (rw [f_X0_gripOfWheel_3]; done) | (rw [f_X0_gripOfWheel_3]; rfl) | (simp only [f_X0_gripOfWheel_3]; done))
def v_X0_findGrips_1 (cn : Nat) (g : F1) (w0 : F1) (w1 : F1) (w2 : F1) (rs : F1) (rl : F1) (rr : F1) : Int32 := (((0 + (f_X0_gripOfWheel_0 cn g w0 rs rl rr)) + (f_X0_gripOfWheel_1 cn g w1 rs rl rr)) + (f_X0_gripOfWheel_2 cn g w2 rs rl rr))
def f_X0_findGrips (cn : Nat) (g : F1) (w0 : F1) (w1 : F1) (w2 : F1) (w3 : F1) (rs : F1) (rl : F1) (rr : F1) : Int32 := ((v_X0_findGrips_1 cn g w0 w1 w2 rs rl rr) + (f_X0_gripOfWheel_3 cn g w3 rs rl rr))
def f_X0_findGrips_a0 (cn : Nat) (g : F1) (w0 : F1) (rs : F1) (rl : F1) (rr : F1) : F1 := (upd w0 13 (f_X0_gripOfWheel_0 cn g w0 rs rl rr))
def f_X0_findGrips_a1 (cn : Nat) (g : F1) (w1 : F1) (rs : F1) (rl : F1) (rr : F1) : F1 := (upd w1 13 (f_X0_gripOfWheel_1 cn g w1 rs rl rr))
def f_X0_findGrips_a2 (cn : Nat) (g : F1) (w2 : F1) (rs : F1) (rl : F1) (rr : F1) : F1 := (upd w2 13 (f_X0_gripOfWheel_2 cn g w2 rs rl rr))
def f_X0_findGrips_a3 (cn : Nat) (g : F1) (w3 : F1) (rs : F1) (rl : F1) (rr : F1) : F1 := (upd w3 13 (f_X0_gripOfWheel_3 cn g w3 rs rl rr))
theorem ok_X0_findGrips_a0 (cn : Nat) (g : F1) (w0 : F1) (rs : F1) (rl : F1) (rr : F1) (tk_a0 : kpOK w0) : kpOK (f_X0_findGrips_a0 cn g w0 rs rl rr) := by
  (try simp only [f_X0_findGrips_a0]); exact (kp_upd tk_a0)
theorem ok_X0_findGrips_a1 (cn : Nat) (g : F1) (w1 : F1) (rs : F1) (rl : F1) (rr : F1) (tk_a1 : kpOK w1) : kpOK (f_X0_findGrips_a1 cn g w1 rs rl rr) := by
  (try simp only [f_X0_findGrips_a1]); exact (kp_upd tk_a1)
theorem ok_X0_findGrips_a2 (cn : Nat) (g : F1) (w2 : F1) (rs : F1) (rl : F1) (rr : F1) (tk_a2 : kpOK w2) : kpOK (f_X0_findGrips_a2 cn g w2 rs rl rr) := by
  (try simp only [f_X0_findGrips_a2]); exact (kp_upd tk_a2)
theorem ok_X0_findGrips_a3 (cn : Nat) (g : F1) (w3 : F1) (rs : F1) (rl : F1) (rr : F1) (tk_a3 : kpOK w3) : kpOK (f_X0_findGrips_a3 cn g w3 rs rl rr) := by
  (try simp only [f_X0_findGrips_a3]); exact (kp_upd tk_a3)
set_option maxHeartbeats 4000000 in
set_option maxRecDepth 100000 in
theorem c_X0_findGrips (l : Launch) (D : va_G) (ty : Nat → ClassId) (hc : Nat) (h : Nat) (aw : Nat) (al : Nat) (hr : Nat) (hs : Nat) (a0 : Nat) (a1 : Nat) (a2 : Nat) (a3 : Nat) (m0 : Nat) (m1 : Nat) (m2 : Nat) (m3 : Nat) (s0 : Nat) (l0 : Nat) (r0 : Nat) (cn : Nat) (g : F1) (w0 : F1) (w1 : F1) (w2 : F1) (w3 : F1) (rs : F1) (rl : F1) (rr : F1) (hd : rdOK cn) : MC l D ty yX0_findGrips cX0_findGrips 3 (some .int) 3 [.ref hc] [(hc, caE g h aw al hr hs), (aw, waE ty a0 a1 a2 a3), (a0, whE w0 m0), (a1, whE w1 m1), (a2, whE w2 m2), (a3, whE w3 m3), (hr, roE cn s0 l0 r0), (s0, arE ty 12 rs), (l0, arE ty 12 rl), (r0, arE ty 12 rr)] (some (.int (f_X0_findGrips cn g w0 w1 w2 w3 rs rl rr))) [(hc, caE g h aw al hr hs), (aw, waE ty a0 a1 a2 a3), (a0, whE (f_X0_findGrips_a0 cn g w0 rs rl rr) m0), (a1, whE (f_X0_findGrips_a1 cn g w1 rs rl rr) m1), (a2, whE (f_X0_findGrips_a2 cn g w2 rs rl rr) m2), (a3, whE (f_X0_findGrips_a3 cn g w3 rs rl rr) m3), (hr, roE cn s0 l0 r0), (s0, arE ty 12 rs), (l0, arE ty 12 rl), (r0, arE ty 12 rr)] := by
  refine mc_i (by decide +kernel) (Nat.le_of_ble_eq_true rfl) ?_
  intro p e s m args below meth c A Q ls C hK hA X hret hl
  have hx := C.1
  have hb := C.2.1
  have hl : lv_has ls 3 [(0, .ref hc)] := hl
  have X : Wd D A s.heap [(hc, caE g h aw al hr hs), (aw, waE ty a0 a1 a2 a3), (a0, whE w0 m0), (a1, whE w1 m1), (a2, whE w2 m2), (a3, whE w3 m3), (hr, roE cn s0 l0 r0), (s0, arE ty 12 rs), (l0, arE ty 12 rl), (r0, arE ty 12 rr)] s.heap [] := X
  refine lv_iconst (v := 0) hx hb dX0_findGrips_0 (by decide) ?_
  refine lv_istore_n (lv' := [(1, .int 0), (0, .ref hc)]) hx hb dX0_findGrips_1 rfl hl (by decide) rfl (fun ls hl => ?_)
  refine lv_iconst (v := 0) hx hb dX0_findGrips_2 (by decide) ?_
  refine lv_istore_n (lv' := [(2, .int 0), (1, .int 0), (0, .ref hc)]) hx hb dX0_findGrips_3 rfl hl (by decide) rfl (fun ls hl => ?_)
  refine lv_iload_n hx hb dX0_findGrips_4 rfl (lv_at hl 0 rfl) ?_
  refine lv_iconst (v := 4) hx hb dX0_findGrips_5 (by decide) ?_
  refine lv_icmp_ge (tgt := 41) hx hb dX0_findGrips_6 (by decide) (fun c0 => absurd c0 (by decide)) (fun _ => ?_)
  refine lv_aload_n hx hb dX0_findGrips_9 rfl (lv_at hl 2 rfl) ?_
  refine get_ca_1 C hK X 0 rfl fl_X0_22 dX0_findGrips_10 ?_
  refine lv_iload_n hx hb dX0_findGrips_13 rfl (lv_at hl 0 rfl) ?_
  refine s_aald (t0 := 2) (b := a0) C hK X 1 rfl rfl (vp_in_nI (n := 0) (by decide) (by decide)) rfl dX0_findGrips_14 ?_
  refine lv_aload_n hx hb dX0_findGrips_15 rfl (lv_at hl 2 rfl) ?_
  refine lv_iload_n hx hb dX0_findGrips_16 rfl (lv_at hl 0 rfl) ?_
  refine s_cV0i C hK hA X (c_X0_gripOfWheel_0 l D ty hc h aw al hr hs a0 a1 a2 a3 m0 s0 l0 r0 cn g w0 rs rl rr hd) [0, 1, 2, 6, 7, 8, 9] (pk_c rfl (pk_c rfl (pk_c rfl (pk_c rfl (pk_c rfl (pk_c rfl (pk_c rfl pk_n))))))) rfl ml_X0_gripOfWheel wm_X0_109 (q0 := 0) rfl rfl rfl ⟨Nat.le_of_ble_eq_true rfl, Nat.le_of_ble_eq_true rfl⟩ ⟨Nat.zero_le _, Nat.zero_le _⟩ hl.1 rfl (Nat.le_of_ble_eq_true rfl) dX0_findGrips_17 (fun H locs X => ?_)
  refine put_wh_14 C hK X 2 rfl pl_X0_113 dX0_findGrips_20 (fun H locs X => ?_)
  have X : Wd D A s.heap [(hc, caE g h aw al hr hs), (aw, waE ty a0 a1 a2 a3), (a0, whE (upd w0 13 (f_X0_gripOfWheel_0 cn g w0 rs rl rr)) m0), (a1, whE w1 m1), (a2, whE w2 m2), (a3, whE w3 m3), (hr, roE cn s0 l0 r0), (s0, arE ty 12 rs), (l0, arE ty 12 rl), (r0, arE ty 12 rr)] H locs := X
  refine lv_iload_n hx hb dX0_findGrips_23 rfl (lv_at hl 1 rfl) ?_
  refine lv_aload_n hx hb dX0_findGrips_24 rfl (lv_at hl 2 rfl) ?_
  refine get_ca_1 C hK X 0 rfl fl_X0_22 dX0_findGrips_25 ?_
  refine lv_iload_n hx hb dX0_findGrips_28 rfl (lv_at hl 0 rfl) ?_
  refine s_aald (t0 := 2) (b := a0) C hK X 1 rfl rfl (vp_in_nI (n := 0) (by decide) (by decide)) rfl dX0_findGrips_29 ?_
  refine get_wh_14 C hK X 2 rfl fl_X0_113 dX0_findGrips_30 ?_
  refine s_eqi (y := (f_X0_gripOfWheel_0 cn g w0 rs rl rr)) pk_us ?_
  refine lv_iadd hx hb dX0_findGrips_33 ?_
  refine lv_istore_n (lv' := [(1, .int (0 + (f_X0_gripOfWheel_0 cn g w0 rs rl rr))), (2, .int 0), (0, .ref hc)]) hx hb dX0_findGrips_34 rfl hl (by decide) rfl (fun ls hl => ?_)
  refine lv_iinc (v := 1) (lv' := [(2, .int 1), (1, .int (0 + (f_X0_gripOfWheel_0 cn g w0 rs rl rr))), (0, .ref hc)]) hx hb dX0_findGrips_35 hl (k := 1) rfl (by decide) (by decide) rfl (fun ls hl => ?_)
  refine lv_goto (tgt := 4) hx hb dX0_findGrips_38 (by decide) ?_
  refine lv_iload_n hx hb dX0_findGrips_4 rfl (lv_at hl 0 rfl) ?_
  refine lv_iconst (v := 4) hx hb dX0_findGrips_5 (by decide) ?_
  refine lv_icmp_ge (tgt := 41) hx hb dX0_findGrips_6 (by decide) (fun c0 => absurd c0 (by decide)) (fun _ => ?_)
  refine lv_aload_n hx hb dX0_findGrips_9 rfl (lv_at hl 2 rfl) ?_
  refine get_ca_1 C hK X 0 rfl fl_X0_22 dX0_findGrips_10 ?_
  refine lv_iload_n hx hb dX0_findGrips_13 rfl (lv_at hl 0 rfl) ?_
  refine s_aald (t0 := 2) (b := a1) C hK X 1 rfl rfl (vp_in_nI (n := 1) (by decide) (by decide)) rfl dX0_findGrips_14 ?_
  refine lv_aload_n hx hb dX0_findGrips_15 rfl (lv_at hl 2 rfl) ?_
  refine lv_iload_n hx hb dX0_findGrips_16 rfl (lv_at hl 0 rfl) ?_
  refine s_cV0i C hK hA X (c_X0_gripOfWheel_1 l D ty hc h aw al hr hs a0 a1 a2 a3 m1 s0 l0 r0 cn g w1 rs rl rr hd) [0, 1, 3, 6, 7, 8, 9] (pk_c rfl (pk_c rfl (pk_c rfl (pk_c rfl (pk_c rfl (pk_c rfl (pk_c rfl pk_n))))))) rfl ml_X0_gripOfWheel wm_X0_109 (q0 := 0) rfl rfl rfl ⟨Nat.le_of_ble_eq_true rfl, Nat.le_of_ble_eq_true rfl⟩ ⟨Nat.zero_le _, Nat.zero_le _⟩ hl.1 rfl (Nat.le_of_ble_eq_true rfl) dX0_findGrips_17 (fun H locs X => ?_)
  refine put_wh_14 C hK X 3 rfl pl_X0_113 dX0_findGrips_20 (fun H locs X => ?_)
  have X : Wd D A s.heap [(hc, caE g h aw al hr hs), (aw, waE ty a0 a1 a2 a3), (a0, whE (upd w0 13 (f_X0_gripOfWheel_0 cn g w0 rs rl rr)) m0), (a1, whE (upd w1 13 (f_X0_gripOfWheel_1 cn g w1 rs rl rr)) m1), (a2, whE w2 m2), (a3, whE w3 m3), (hr, roE cn s0 l0 r0), (s0, arE ty 12 rs), (l0, arE ty 12 rl), (r0, arE ty 12 rr)] H locs := X
  refine lv_iload_n hx hb dX0_findGrips_23 rfl (lv_at hl 1 rfl) ?_
  refine lv_aload_n hx hb dX0_findGrips_24 rfl (lv_at hl 2 rfl) ?_
  refine get_ca_1 C hK X 0 rfl fl_X0_22 dX0_findGrips_25 ?_
  refine lv_iload_n hx hb dX0_findGrips_28 rfl (lv_at hl 0 rfl) ?_
  refine s_aald (t0 := 2) (b := a1) C hK X 1 rfl rfl (vp_in_nI (n := 1) (by decide) (by decide)) rfl dX0_findGrips_29 ?_
  refine get_wh_14 C hK X 3 rfl fl_X0_113 dX0_findGrips_30 ?_
  refine s_eqi (y := (f_X0_gripOfWheel_1 cn g w1 rs rl rr)) pk_us ?_
  refine lv_iadd hx hb dX0_findGrips_33 ?_
  refine lv_istore_n (lv' := [(1, .int ((0 + (f_X0_gripOfWheel_0 cn g w0 rs rl rr)) + (f_X0_gripOfWheel_1 cn g w1 rs rl rr))), (2, .int 1), (0, .ref hc)]) hx hb dX0_findGrips_34 rfl hl (by decide) rfl (fun ls hl => ?_)
  refine lv_iinc (v := 2) (lv' := [(2, .int 2), (1, .int ((0 + (f_X0_gripOfWheel_0 cn g w0 rs rl rr)) + (f_X0_gripOfWheel_1 cn g w1 rs rl rr))), (0, .ref hc)]) hx hb dX0_findGrips_35 hl (k := 1) rfl (by decide) (by decide) rfl (fun ls hl => ?_)
  refine lv_goto (tgt := 4) hx hb dX0_findGrips_38 (by decide) ?_
  refine lv_iload_n hx hb dX0_findGrips_4 rfl (lv_at hl 0 rfl) ?_
  refine lv_iconst (v := 4) hx hb dX0_findGrips_5 (by decide) ?_
  refine lv_icmp_ge (tgt := 41) hx hb dX0_findGrips_6 (by decide) (fun c0 => absurd c0 (by decide)) (fun _ => ?_)
  refine lv_aload_n hx hb dX0_findGrips_9 rfl (lv_at hl 2 rfl) ?_
  refine get_ca_1 C hK X 0 rfl fl_X0_22 dX0_findGrips_10 ?_
  refine lv_iload_n hx hb dX0_findGrips_13 rfl (lv_at hl 0 rfl) ?_
  refine s_aald (t0 := 2) (b := a2) C hK X 1 rfl rfl (vp_in_nI (n := 2) (by decide) (by decide)) rfl dX0_findGrips_14 ?_
  refine lv_aload_n hx hb dX0_findGrips_15 rfl (lv_at hl 2 rfl) ?_
  refine lv_iload_n hx hb dX0_findGrips_16 rfl (lv_at hl 0 rfl) ?_
  refine s_cV0i C hK hA X (c_X0_gripOfWheel_2 l D ty hc h aw al hr hs a0 a1 a2 a3 m2 s0 l0 r0 cn g w2 rs rl rr hd) [0, 1, 4, 6, 7, 8, 9] (pk_c rfl (pk_c rfl (pk_c rfl (pk_c rfl (pk_c rfl (pk_c rfl (pk_c rfl pk_n))))))) rfl ml_X0_gripOfWheel wm_X0_109 (q0 := 0) rfl rfl rfl ⟨Nat.le_of_ble_eq_true rfl, Nat.le_of_ble_eq_true rfl⟩ ⟨Nat.zero_le _, Nat.zero_le _⟩ hl.1 rfl (Nat.le_of_ble_eq_true rfl) dX0_findGrips_17 (fun H locs X => ?_)
  refine put_wh_14 C hK X 4 rfl pl_X0_113 dX0_findGrips_20 (fun H locs X => ?_)
  have X : Wd D A s.heap [(hc, caE g h aw al hr hs), (aw, waE ty a0 a1 a2 a3), (a0, whE (upd w0 13 (f_X0_gripOfWheel_0 cn g w0 rs rl rr)) m0), (a1, whE (upd w1 13 (f_X0_gripOfWheel_1 cn g w1 rs rl rr)) m1), (a2, whE (upd w2 13 (f_X0_gripOfWheel_2 cn g w2 rs rl rr)) m2), (a3, whE w3 m3), (hr, roE cn s0 l0 r0), (s0, arE ty 12 rs), (l0, arE ty 12 rl), (r0, arE ty 12 rr)] H locs := X
  refine lv_iload_n hx hb dX0_findGrips_23 rfl (lv_at hl 1 rfl) ?_
  refine lv_aload_n hx hb dX0_findGrips_24 rfl (lv_at hl 2 rfl) ?_
  refine get_ca_1 C hK X 0 rfl fl_X0_22 dX0_findGrips_25 ?_
  refine lv_iload_n hx hb dX0_findGrips_28 rfl (lv_at hl 0 rfl) ?_
  refine s_aald (t0 := 2) (b := a2) C hK X 1 rfl rfl (vp_in_nI (n := 2) (by decide) (by decide)) rfl dX0_findGrips_29 ?_
  refine get_wh_14 C hK X 4 rfl fl_X0_113 dX0_findGrips_30 ?_
  refine s_eqi (y := (f_X0_gripOfWheel_2 cn g w2 rs rl rr)) pk_us ?_
  refine lv_iadd hx hb dX0_findGrips_33 ?_
  refine s_eqi (y := (v_X0_findGrips_1 cn g w0 w1 w2 rs rl rr)) rfl ?_
  refine lv_istore_n (lv' := [(1, .int (v_X0_findGrips_1 cn g w0 w1 w2 rs rl rr)), (2, .int 2), (0, .ref hc)]) hx hb dX0_findGrips_34 rfl hl (by decide) rfl (fun ls hl => ?_)
  refine lv_iinc (v := 3) (lv' := [(2, .int 3), (1, .int (v_X0_findGrips_1 cn g w0 w1 w2 rs rl rr)), (0, .ref hc)]) hx hb dX0_findGrips_35 hl (k := 1) rfl (by decide) (by decide) rfl (fun ls hl => ?_)
  refine lv_goto (tgt := 4) hx hb dX0_findGrips_38 (by decide) ?_
  refine lv_iload_n hx hb dX0_findGrips_4 rfl (lv_at hl 0 rfl) ?_
  refine lv_iconst (v := 4) hx hb dX0_findGrips_5 (by decide) ?_
  refine lv_icmp_ge (tgt := 41) hx hb dX0_findGrips_6 (by decide) (fun c0 => absurd c0 (by decide)) (fun _ => ?_)
  refine lv_aload_n hx hb dX0_findGrips_9 rfl (lv_at hl 2 rfl) ?_
  refine get_ca_1 C hK X 0 rfl fl_X0_22 dX0_findGrips_10 ?_
  refine lv_iload_n hx hb dX0_findGrips_13 rfl (lv_at hl 0 rfl) ?_
  refine s_aald (t0 := 2) (b := a3) C hK X 1 rfl rfl (vp_in_nI (n := 3) (by decide) (by decide)) rfl dX0_findGrips_14 ?_
  refine lv_aload_n hx hb dX0_findGrips_15 rfl (lv_at hl 2 rfl) ?_
  refine lv_iload_n hx hb dX0_findGrips_16 rfl (lv_at hl 0 rfl) ?_
  refine s_cV0i C hK hA X (c_X0_gripOfWheel_3 l D ty hc h aw al hr hs a0 a1 a2 a3 m3 s0 l0 r0 cn g w3 rs rl rr hd) [0, 1, 5, 6, 7, 8, 9] (pk_c rfl (pk_c rfl (pk_c rfl (pk_c rfl (pk_c rfl (pk_c rfl (pk_c rfl pk_n))))))) rfl ml_X0_gripOfWheel wm_X0_109 (q0 := 0) rfl rfl rfl ⟨Nat.le_of_ble_eq_true rfl, Nat.le_of_ble_eq_true rfl⟩ ⟨Nat.zero_le _, Nat.zero_le _⟩ hl.1 rfl (Nat.le_of_ble_eq_true rfl) dX0_findGrips_17 (fun H locs X => ?_)
  refine put_wh_14 C hK X 5 rfl pl_X0_113 dX0_findGrips_20 (fun H locs X => ?_)
  have X : Wd D A s.heap [(hc, caE g h aw al hr hs), (aw, waE ty a0 a1 a2 a3), (a0, whE (upd w0 13 (f_X0_gripOfWheel_0 cn g w0 rs rl rr)) m0), (a1, whE (upd w1 13 (f_X0_gripOfWheel_1 cn g w1 rs rl rr)) m1), (a2, whE (upd w2 13 (f_X0_gripOfWheel_2 cn g w2 rs rl rr)) m2), (a3, whE (upd w3 13 (f_X0_gripOfWheel_3 cn g w3 rs rl rr)) m3), (hr, roE cn s0 l0 r0), (s0, arE ty 12 rs), (l0, arE ty 12 rl), (r0, arE ty 12 rr)] H locs := X
  refine lv_iload_n hx hb dX0_findGrips_23 rfl (lv_at hl 1 rfl) ?_
  refine lv_aload_n hx hb dX0_findGrips_24 rfl (lv_at hl 2 rfl) ?_
  refine get_ca_1 C hK X 0 rfl fl_X0_22 dX0_findGrips_25 ?_
  refine lv_iload_n hx hb dX0_findGrips_28 rfl (lv_at hl 0 rfl) ?_
  refine s_aald (t0 := 2) (b := a3) C hK X 1 rfl rfl (vp_in_nI (n := 3) (by decide) (by decide)) rfl dX0_findGrips_29 ?_
  refine get_wh_14 C hK X 5 rfl fl_X0_113 dX0_findGrips_30 ?_
  refine s_eqi (y := (f_X0_gripOfWheel_3 cn g w3 rs rl rr)) pk_us ?_
  refine lv_iadd hx hb dX0_findGrips_33 ?_
  refine lv_istore_n (lv' := [(1, .int ((v_X0_findGrips_1 cn g w0 w1 w2 rs rl rr) + (f_X0_gripOfWheel_3 cn g w3 rs rl rr))), (2, .int 3), (0, .ref hc)]) hx hb dX0_findGrips_34 rfl hl (by decide) rfl (fun ls hl => ?_)
  refine lv_iinc (v := 4) (lv' := [(2, .int 4), (1, .int ((v_X0_findGrips_1 cn g w0 w1 w2 rs rl rr) + (f_X0_gripOfWheel_3 cn g w3 rs rl rr))), (0, .ref hc)]) hx hb dX0_findGrips_35 hl (k := 1) rfl (by decide) (by decide) rfl (fun ls hl => ?_)
  refine lv_goto (tgt := 4) hx hb dX0_findGrips_38 (by decide) ?_
  refine lv_iload_n hx hb dX0_findGrips_4 rfl (lv_at hl 0 rfl) ?_
  refine lv_iconst (v := 4) hx hb dX0_findGrips_5 (by decide) ?_
  refine lv_icmp_ge (tgt := 41) hx hb dX0_findGrips_6 (by decide) (fun _ => ?_) (fun c0 => absurd (by decide) c0)
  refine lv_iload_n hx hb dX0_findGrips_41 rfl (lv_at hl 1 rfl) ?_
  have e_2_0 : (f_X0_findGrips_a0 cn g w0 rs rl rr) = (upd w0 13 (f_X0_gripOfWheel_0 cn g w0 rs rl rr)) := by first | (rw [f_X0_findGrips_a0]; done) | (rw [f_X0_findGrips_a0]; rfl) | (simp only [f_X0_findGrips_a0]; done)
  have e_3_0 : (f_X0_findGrips_a1 cn g w1 rs rl rr) = (upd w1 13 (f_X0_gripOfWheel_1 cn g w1 rs rl rr)) := by first | (rw [f_X0_findGrips_a1]; done) | (rw [f_X0_findGrips_a1]; rfl) | (simp only [f_X0_findGrips_a1]; done)
  have e_4_0 : (f_X0_findGrips_a2 cn g w2 rs rl rr) = (upd w2 13 (f_X0_gripOfWheel_2 cn g w2 rs rl rr)) := by first | (rw [f_X0_findGrips_a2]; done) | (rw [f_X0_findGrips_a2]; rfl) | (simp only [f_X0_findGrips_a2]; done)
  have e_5_0 : (f_X0_findGrips_a3 cn g w3 rs rl rr) = (upd w3 13 (f_X0_gripOfWheel_3 cn g w3 rs rl rr)) := by first | (rw [f_X0_findGrips_a3]; done) | (rw [f_X0_findGrips_a3]; rfl) | (simp only [f_X0_findGrips_a3]; done)
  exact hret _ _ _ _ _ _ dX0_findGrips_42 X (by rw [e_2_0, e_3_0, e_4_0, e_5_0]) (by first | (rw [f_X0_findGrips]; done) | (rw [f_X0_findGrips]; rfl) | (simp only [f_X0_findGrips]; done))
def v_X0_tick_1 (u : CarS) : F1 := (f_X0_findGrips_a0 (u.2 2) (upd (upd (u.1 0) 2 (((u.1 0) 2) + 1)) 3 (f_X4_takeDemand (u.2 3) (u.1 16) (u.1 17) (((u.1 0) 2) + 1) ((u.1 0) 3))) (u.1 2) (u.1 13) (u.1 14) (u.1 15))
theorem okm_X0_tick_2 (u : CarS) (hO : CarOK u) : kpOK (v_X0_tick_1 u) := by
  exact (ok_X0_findGrips_a0 (u.2 2) (upd (upd (u.1 0) 2 (((u.1 0) 2) + 1)) 3 (f_X4_takeDemand (u.2 3) (u.1 16) (u.1 17) (((u.1 0) 2) + 1) ((u.1 0) 3))) (u.1 2) (u.1 13) (u.1 14) (u.1 15) hO.1)
def v_X0_tick_3 (u : CarS) : F1 := (f_X0_findGrips_a1 (u.2 2) (upd (upd (u.1 0) 2 (((u.1 0) 2) + 1)) 3 (f_X4_takeDemand (u.2 3) (u.1 16) (u.1 17) (((u.1 0) 2) + 1) ((u.1 0) 3))) (u.1 3) (u.1 13) (u.1 14) (u.1 15))
theorem okm_X0_tick_4 (u : CarS) (hO : CarOK u) : kpOK (v_X0_tick_3 u) := by
  exact (ok_X0_findGrips_a1 (u.2 2) (upd (upd (u.1 0) 2 (((u.1 0) 2) + 1)) 3 (f_X4_takeDemand (u.2 3) (u.1 16) (u.1 17) (((u.1 0) 2) + 1) ((u.1 0) 3))) (u.1 3) (u.1 13) (u.1 14) (u.1 15) hO.2.1)
def v_X0_tick_5 (u : CarS) : F1 := (f_X0_findGrips_a2 (u.2 2) (upd (upd (u.1 0) 2 (((u.1 0) 2) + 1)) 3 (f_X4_takeDemand (u.2 3) (u.1 16) (u.1 17) (((u.1 0) 2) + 1) ((u.1 0) 3))) (u.1 4) (u.1 13) (u.1 14) (u.1 15))
theorem okm_X0_tick_6 (u : CarS) (hO : CarOK u) : kpOK (v_X0_tick_5 u) := by
  exact (ok_X0_findGrips_a2 (u.2 2) (upd (upd (u.1 0) 2 (((u.1 0) 2) + 1)) 3 (f_X4_takeDemand (u.2 3) (u.1 16) (u.1 17) (((u.1 0) 2) + 1) ((u.1 0) 3))) (u.1 4) (u.1 13) (u.1 14) (u.1 15) hO.2.2.1)
def v_X0_tick_7 (u : CarS) : F1 := (f_X0_findGrips_a3 (u.2 2) (upd (upd (u.1 0) 2 (((u.1 0) 2) + 1)) 3 (f_X4_takeDemand (u.2 3) (u.1 16) (u.1 17) (((u.1 0) 2) + 1) ((u.1 0) 3))) (u.1 5) (u.1 13) (u.1 14) (u.1 15))
theorem okm_X0_tick_8 (u : CarS) (hO : CarOK u) : kpOK (v_X0_tick_7 u) := by
  exact (ok_X0_findGrips_a3 (u.2 2) (upd (upd (u.1 0) 2 (((u.1 0) 2) + 1)) 3 (f_X4_takeDemand (u.2 3) (u.1 16) (u.1 17) (((u.1 0) 2) + 1) ((u.1 0) 3))) (u.1 5) (u.1 13) (u.1 14) (u.1 15) hO.2.2.2.1)
def v_X0_tick_9 (u : CarS) : Int32 := (f_X0_findGrips (u.2 2) (upd (upd (u.1 0) 2 (((u.1 0) 2) + 1)) 3 (f_X4_takeDemand (u.2 3) (u.1 16) (u.1 17) (((u.1 0) 2) + 1) ((u.1 0) 3))) (u.1 2) (u.1 3) (u.1 4) (u.1 5) (u.1 13) (u.1 14) (u.1 15))
def v_X0_tick_10 (u : CarS) : F1 := (f_X1_act_h (u.1 1) (f_X5_turn_h (v_X0_tick_1 u) (mx (((u.1 0) 0) - (f_fdiv (v_X0_tick_9 u) 40)) 0)) (f_X5_turn_h (v_X0_tick_3 u) (mx (((u.1 0) 0) - (f_fdiv (v_X0_tick_9 u) 40)) 0)) (f_X5_turn_h (v_X0_tick_5 u) (mx (((u.1 0) 0) - (f_fdiv (v_X0_tick_9 u) 40)) 0)) (f_X5_turn_h (v_X0_tick_7 u) (mx (((u.1 0) 0) - (f_fdiv (v_X0_tick_9 u) 40)) 0)) (u.1 6) (u.1 7) (u.1 8) (u.1 9) (f_X4_takeDemand (u.2 3) (u.1 16) (u.1 17) (((u.1 0) 2) + 1) ((u.1 0) 3)))
def v_X0_tick_11 (u : CarS) : F1 := (f_X1_act_a0 (u.1 1) (f_X5_turn_h (v_X0_tick_1 u) (mx (((u.1 0) 0) - (f_fdiv (v_X0_tick_9 u) 40)) 0)) (f_X5_turn_h (v_X0_tick_3 u) (mx (((u.1 0) 0) - (f_fdiv (v_X0_tick_9 u) 40)) 0)) (f_X5_turn_h (v_X0_tick_5 u) (mx (((u.1 0) 0) - (f_fdiv (v_X0_tick_9 u) 40)) 0)) (f_X5_turn_h (v_X0_tick_7 u) (mx (((u.1 0) 0) - (f_fdiv (v_X0_tick_9 u) 40)) 0)) (u.1 6) (u.1 7) (u.1 8) (u.1 9) (f_X4_takeDemand (u.2 3) (u.1 16) (u.1 17) (((u.1 0) 2) + 1) ((u.1 0) 3)))
theorem okm_X0_tick_12 (u : CarS) (hO : CarOK u) : kpOK (v_X0_tick_11 u) := by
  exact (ok_X1_act_a0 (u.1 1) (f_X5_turn_h (v_X0_tick_1 u) (mx (((u.1 0) 0) - (f_fdiv (v_X0_tick_9 u) 40)) 0)) (f_X5_turn_h (v_X0_tick_3 u) (mx (((u.1 0) 0) - (f_fdiv (v_X0_tick_9 u) 40)) 0)) (f_X5_turn_h (v_X0_tick_5 u) (mx (((u.1 0) 0) - (f_fdiv (v_X0_tick_9 u) 40)) 0)) (f_X5_turn_h (v_X0_tick_7 u) (mx (((u.1 0) 0) - (f_fdiv (v_X0_tick_9 u) 40)) 0)) (u.1 6) (u.1 7) (u.1 8) (u.1 9) (f_X4_takeDemand (u.2 3) (u.1 16) (u.1 17) (((u.1 0) 2) + 1) ((u.1 0) 3)) (ok_X5_turn_h (v_X0_tick_1 u) (mx (((u.1 0) 0) - (f_fdiv (v_X0_tick_9 u) 40)) 0) (okm_X0_tick_2 u hO)))
def v_X0_tick_13 (u : CarS) : F1 := (f_X1_act_a1 (u.1 1) (f_X5_turn_h (v_X0_tick_1 u) (mx (((u.1 0) 0) - (f_fdiv (v_X0_tick_9 u) 40)) 0)) (f_X5_turn_h (v_X0_tick_3 u) (mx (((u.1 0) 0) - (f_fdiv (v_X0_tick_9 u) 40)) 0)) (f_X5_turn_h (v_X0_tick_5 u) (mx (((u.1 0) 0) - (f_fdiv (v_X0_tick_9 u) 40)) 0)) (f_X5_turn_h (v_X0_tick_7 u) (mx (((u.1 0) 0) - (f_fdiv (v_X0_tick_9 u) 40)) 0)) (u.1 6) (u.1 7) (u.1 8) (u.1 9) (f_X4_takeDemand (u.2 3) (u.1 16) (u.1 17) (((u.1 0) 2) + 1) ((u.1 0) 3)))
theorem okm_X0_tick_14 (u : CarS) (hO : CarOK u) : kpOK (v_X0_tick_13 u) := by
  exact (ok_X1_act_a1 (u.1 1) (f_X5_turn_h (v_X0_tick_1 u) (mx (((u.1 0) 0) - (f_fdiv (v_X0_tick_9 u) 40)) 0)) (f_X5_turn_h (v_X0_tick_3 u) (mx (((u.1 0) 0) - (f_fdiv (v_X0_tick_9 u) 40)) 0)) (f_X5_turn_h (v_X0_tick_5 u) (mx (((u.1 0) 0) - (f_fdiv (v_X0_tick_9 u) 40)) 0)) (f_X5_turn_h (v_X0_tick_7 u) (mx (((u.1 0) 0) - (f_fdiv (v_X0_tick_9 u) 40)) 0)) (u.1 6) (u.1 7) (u.1 8) (u.1 9) (f_X4_takeDemand (u.2 3) (u.1 16) (u.1 17) (((u.1 0) 2) + 1) ((u.1 0) 3)) (ok_X5_turn_h (v_X0_tick_3 u) (mx (((u.1 0) 0) - (f_fdiv (v_X0_tick_9 u) 40)) 0) (okm_X0_tick_4 u hO)))
def v_X0_tick_15 (u : CarS) : F1 := (f_X1_act_a2 (u.1 1) (f_X5_turn_h (v_X0_tick_1 u) (mx (((u.1 0) 0) - (f_fdiv (v_X0_tick_9 u) 40)) 0)) (f_X5_turn_h (v_X0_tick_3 u) (mx (((u.1 0) 0) - (f_fdiv (v_X0_tick_9 u) 40)) 0)) (f_X5_turn_h (v_X0_tick_5 u) (mx (((u.1 0) 0) - (f_fdiv (v_X0_tick_9 u) 40)) 0)) (f_X5_turn_h (v_X0_tick_7 u) (mx (((u.1 0) 0) - (f_fdiv (v_X0_tick_9 u) 40)) 0)) (u.1 6) (u.1 7) (u.1 8) (u.1 9) (f_X4_takeDemand (u.2 3) (u.1 16) (u.1 17) (((u.1 0) 2) + 1) ((u.1 0) 3)))
theorem okm_X0_tick_16 (u : CarS) (hO : CarOK u) : kpOK (v_X0_tick_15 u) := by
  exact (ok_X1_act_a2 (u.1 1) (f_X5_turn_h (v_X0_tick_1 u) (mx (((u.1 0) 0) - (f_fdiv (v_X0_tick_9 u) 40)) 0)) (f_X5_turn_h (v_X0_tick_3 u) (mx (((u.1 0) 0) - (f_fdiv (v_X0_tick_9 u) 40)) 0)) (f_X5_turn_h (v_X0_tick_5 u) (mx (((u.1 0) 0) - (f_fdiv (v_X0_tick_9 u) 40)) 0)) (f_X5_turn_h (v_X0_tick_7 u) (mx (((u.1 0) 0) - (f_fdiv (v_X0_tick_9 u) 40)) 0)) (u.1 6) (u.1 7) (u.1 8) (u.1 9) (f_X4_takeDemand (u.2 3) (u.1 16) (u.1 17) (((u.1 0) 2) + 1) ((u.1 0) 3)) (ok_X5_turn_h (v_X0_tick_5 u) (mx (((u.1 0) 0) - (f_fdiv (v_X0_tick_9 u) 40)) 0) (okm_X0_tick_6 u hO)))
def v_X0_tick_17 (u : CarS) : F1 := (f_X1_act_a3 (u.1 1) (f_X5_turn_h (v_X0_tick_1 u) (mx (((u.1 0) 0) - (f_fdiv (v_X0_tick_9 u) 40)) 0)) (f_X5_turn_h (v_X0_tick_3 u) (mx (((u.1 0) 0) - (f_fdiv (v_X0_tick_9 u) 40)) 0)) (f_X5_turn_h (v_X0_tick_5 u) (mx (((u.1 0) 0) - (f_fdiv (v_X0_tick_9 u) 40)) 0)) (f_X5_turn_h (v_X0_tick_7 u) (mx (((u.1 0) 0) - (f_fdiv (v_X0_tick_9 u) 40)) 0)) (u.1 6) (u.1 7) (u.1 8) (u.1 9) (f_X4_takeDemand (u.2 3) (u.1 16) (u.1 17) (((u.1 0) 2) + 1) ((u.1 0) 3)))
theorem okm_X0_tick_18 (u : CarS) (hO : CarOK u) : kpOK (v_X0_tick_17 u) := by
  exact (ok_X1_act_a3 (u.1 1) (f_X5_turn_h (v_X0_tick_1 u) (mx (((u.1 0) 0) - (f_fdiv (v_X0_tick_9 u) 40)) 0)) (f_X5_turn_h (v_X0_tick_3 u) (mx (((u.1 0) 0) - (f_fdiv (v_X0_tick_9 u) 40)) 0)) (f_X5_turn_h (v_X0_tick_5 u) (mx (((u.1 0) 0) - (f_fdiv (v_X0_tick_9 u) 40)) 0)) (f_X5_turn_h (v_X0_tick_7 u) (mx (((u.1 0) 0) - (f_fdiv (v_X0_tick_9 u) 40)) 0)) (u.1 6) (u.1 7) (u.1 8) (u.1 9) (f_X4_takeDemand (u.2 3) (u.1 16) (u.1 17) (((u.1 0) 2) + 1) ((u.1 0) 3)) (ok_X5_turn_h (v_X0_tick_7 u) (mx (((u.1 0) 0) - (f_fdiv (v_X0_tick_9 u) 40)) 0) (okm_X0_tick_8 u hO)))
def v_X0_tick_19 (u : CarS) : F1 := (f_X1_act_m0 (f_X5_turn_h (v_X0_tick_1 u) (mx (((u.1 0) 0) - (f_fdiv (v_X0_tick_9 u) 40)) 0)) (u.1 6))
def v_X0_tick_20 (u : CarS) : F1 := (f_X1_act_m1 (f_X5_turn_h (v_X0_tick_3 u) (mx (((u.1 0) 0) - (f_fdiv (v_X0_tick_9 u) 40)) 0)) (u.1 7))
def v_X0_tick_21 (u : CarS) : F1 := (f_X1_act_m2 (f_X5_turn_h (v_X0_tick_5 u) (mx (((u.1 0) 0) - (f_fdiv (v_X0_tick_9 u) 40)) 0)) (u.1 8))
def v_X0_tick_22 (u : CarS) : F1 := (f_X1_act_m3 (f_X5_turn_h (v_X0_tick_7 u) (mx (((u.1 0) 0) - (f_fdiv (v_X0_tick_9 u) 40)) 0)) (u.1 9))
def v_X0_tick_23 (u : CarS) : Nat := (f_X1_act_al_fi (u.2 0) (u.2 1) (u.1 1) (f_X5_turn_h (v_X0_tick_1 u) (mx (((u.1 0) 0) - (f_fdiv (v_X0_tick_9 u) 40)) 0)) (f_X5_turn_h (v_X0_tick_3 u) (mx (((u.1 0) 0) - (f_fdiv (v_X0_tick_9 u) 40)) 0)) (f_X5_turn_h (v_X0_tick_5 u) (mx (((u.1 0) 0) - (f_fdiv (v_X0_tick_9 u) 40)) 0)) (f_X5_turn_h (v_X0_tick_7 u) (mx (((u.1 0) 0) - (f_fdiv (v_X0_tick_9 u) 40)) 0)) (u.1 6) (u.1 7) (u.1 8) (u.1 9) (f_X4_takeDemand (u.2 3) (u.1 16) (u.1 17) (((u.1 0) 2) + 1) ((u.1 0) 3)))
def v_X0_tick_24 (u : CarS) : Nat := (f_X1_act_al_lc (u.2 1) (u.1 1) (f_X5_turn_h (v_X0_tick_1 u) (mx (((u.1 0) 0) - (f_fdiv (v_X0_tick_9 u) 40)) 0)) (f_X5_turn_h (v_X0_tick_3 u) (mx (((u.1 0) 0) - (f_fdiv (v_X0_tick_9 u) 40)) 0)) (f_X5_turn_h (v_X0_tick_5 u) (mx (((u.1 0) 0) - (f_fdiv (v_X0_tick_9 u) 40)) 0)) (f_X5_turn_h (v_X0_tick_7 u) (mx (((u.1 0) 0) - (f_fdiv (v_X0_tick_9 u) 40)) 0)) (u.1 6) (u.1 7) (u.1 8) (u.1 9) (f_X4_takeDemand (u.2 3) (u.1 16) (u.1 17) (((u.1 0) 2) + 1) ((u.1 0) 3)))
theorem okm_X0_tick_25 (u : CarS) (hO : CarOK u) : lgOK (v_X0_tick_23 u) (v_X0_tick_24 u) := by
  exact (ok_X1_act_al (u.2 0) (u.2 1) (u.1 1) (f_X5_turn_h (v_X0_tick_1 u) (mx (((u.1 0) 0) - (f_fdiv (v_X0_tick_9 u) 40)) 0)) (f_X5_turn_h (v_X0_tick_3 u) (mx (((u.1 0) 0) - (f_fdiv (v_X0_tick_9 u) 40)) 0)) (f_X5_turn_h (v_X0_tick_5 u) (mx (((u.1 0) 0) - (f_fdiv (v_X0_tick_9 u) 40)) 0)) (f_X5_turn_h (v_X0_tick_7 u) (mx (((u.1 0) 0) - (f_fdiv (v_X0_tick_9 u) 40)) 0)) (u.1 6) (u.1 7) (u.1 8) (u.1 9) (f_X4_takeDemand (u.2 3) (u.1 16) (u.1 17) (((u.1 0) 2) + 1) ((u.1 0) 3)) hO.2.2.2.2.1)
def v_X0_tick_26 (u : CarS) : F1 := (f_X1_act_t (u.2 0) (u.2 1) (u.1 1) (f_X5_turn_h (v_X0_tick_1 u) (mx (((u.1 0) 0) - (f_fdiv (v_X0_tick_9 u) 40)) 0)) (f_X5_turn_h (v_X0_tick_3 u) (mx (((u.1 0) 0) - (f_fdiv (v_X0_tick_9 u) 40)) 0)) (f_X5_turn_h (v_X0_tick_5 u) (mx (((u.1 0) 0) - (f_fdiv (v_X0_tick_9 u) 40)) 0)) (f_X5_turn_h (v_X0_tick_7 u) (mx (((u.1 0) 0) - (f_fdiv (v_X0_tick_9 u) 40)) 0)) (u.1 6) (u.1 7) (u.1 8) (u.1 9) (u.1 10) (((u.1 0) 2) + 1) (f_X4_takeDemand (u.2 3) (u.1 16) (u.1 17) (((u.1 0) 2) + 1) ((u.1 0) 3)))
def v_X0_tick_27 (u : CarS) : F1 := (f_X1_act_k (u.2 0) (u.2 1) (u.1 1) (f_X5_turn_h (v_X0_tick_1 u) (mx (((u.1 0) 0) - (f_fdiv (v_X0_tick_9 u) 40)) 0)) (f_X5_turn_h (v_X0_tick_3 u) (mx (((u.1 0) 0) - (f_fdiv (v_X0_tick_9 u) 40)) 0)) (f_X5_turn_h (v_X0_tick_5 u) (mx (((u.1 0) 0) - (f_fdiv (v_X0_tick_9 u) 40)) 0)) (f_X5_turn_h (v_X0_tick_7 u) (mx (((u.1 0) 0) - (f_fdiv (v_X0_tick_9 u) 40)) 0)) (u.1 6) (u.1 7) (u.1 8) (u.1 9) (u.1 11) (f_X4_takeDemand (u.2 3) (u.1 16) (u.1 17) (((u.1 0) 2) + 1) ((u.1 0) 3)))
def v_X0_tick_28 (u : CarS) : F1 := (f_X1_act_v (u.2 0) (u.2 1) (u.1 1) (f_X5_turn_h (v_X0_tick_1 u) (mx (((u.1 0) 0) - (f_fdiv (v_X0_tick_9 u) 40)) 0)) (f_X5_turn_h (v_X0_tick_3 u) (mx (((u.1 0) 0) - (f_fdiv (v_X0_tick_9 u) 40)) 0)) (f_X5_turn_h (v_X0_tick_5 u) (mx (((u.1 0) 0) - (f_fdiv (v_X0_tick_9 u) 40)) 0)) (f_X5_turn_h (v_X0_tick_7 u) (mx (((u.1 0) 0) - (f_fdiv (v_X0_tick_9 u) 40)) 0)) (u.1 6) (u.1 7) (u.1 8) (u.1 9) (u.1 12) (f_X4_takeDemand (u.2 3) (u.1 16) (u.1 17) (((u.1 0) 2) + 1) ((u.1 0) 3)))
def f_X0_tick_ad0 (u : CarS) : F1 := (upd (upd (upd (upd (u.1 0) 2 (((u.1 0) 2) + 1)) 3 (f_X4_takeDemand (u.2 3) (u.1 16) (u.1 17) (((u.1 0) 2) + 1) ((u.1 0) 3))) 1 (((u.1 0) 1) + (f_fdiv ((u.1 0) 0) 100))) 0 (mx (((u.1 0) 0) - (f_fdiv (v_X0_tick_9 u) 40)) 0))
def f_X0_tick_ad3 (u : CarS) : F1 := (f_X5_countLocked_h (v_X0_tick_11 u) (mx (((u.1 0) 0) - (f_fdiv (v_X0_tick_9 u) 40)) 0))
def f_X0_tick_ad4 (u : CarS) : F1 := (f_X5_countLocked_h (v_X0_tick_13 u) (mx (((u.1 0) 0) - (f_fdiv (v_X0_tick_9 u) 40)) 0))
def f_X0_tick_ad5 (u : CarS) : F1 := (f_X5_countLocked_h (v_X0_tick_15 u) (mx (((u.1 0) 0) - (f_fdiv (v_X0_tick_9 u) 40)) 0))
def f_X0_tick_ad6 (u : CarS) : F1 := (f_X5_countLocked_h (v_X0_tick_17 u) (mx (((u.1 0) 0) - (f_fdiv (v_X0_tick_9 u) 40)) 0))
def f_X0_tick_ad15_cn (u : CarS) : Nat := (f_X3_dropPassed_h_cn (u.2 2) (u.1 13) (((u.1 0) 1) + (f_fdiv ((u.1 0) 0) 100)))
def f_X0_tick_ad16 (u : CarS) : F1 := (f_X3_dropPassed_s0 (u.2 2) (u.1 13) (((u.1 0) 1) + (f_fdiv ((u.1 0) 0) 100)))
def f_X0_tick_ad17 (u : CarS) : F1 := (f_X3_dropPassed_l0 (u.2 2) (u.1 13) (u.1 14) (((u.1 0) 1) + (f_fdiv ((u.1 0) 0) 100)))
def f_X0_tick_ad18 (u : CarS) : F1 := (f_X3_dropPassed_r0 (u.2 2) (u.1 13) (u.1 15) (((u.1 0) 1) + (f_fdiv ((u.1 0) 0) 100)))
def f_X0_tick_ad19_pn (u : CarS) : Nat := (f_X4_takeDemand_h_pn (u.2 3) (u.1 16) (((u.1 0) 2) + 1))
def f_X0_tick_ad20 (u : CarS) : F1 := (f_X4_takeDemand_t (u.2 3) (u.1 16) (((u.1 0) 2) + 1))
def f_X0_tick_ad21 (u : CarS) : F1 := (f_X4_takeDemand_d (u.2 3) (u.1 16) (u.1 17) (((u.1 0) 2) + 1))
theorem ok_X0_tick_ad3 (u : CarS) (hO : CarOK u) : kpOK (f_X0_tick_ad3 u) := by
  (try simp only [f_X0_tick_ad3]); exact (ok_X5_countLocked_h (v_X0_tick_11 u) (mx (((u.1 0) 0) - (f_fdiv (v_X0_tick_9 u) 40)) 0) (okm_X0_tick_12 u hO))
theorem ok_X0_tick_ad4 (u : CarS) (hO : CarOK u) : kpOK (f_X0_tick_ad4 u) := by
  (try simp only [f_X0_tick_ad4]); exact (ok_X5_countLocked_h (v_X0_tick_13 u) (mx (((u.1 0) 0) - (f_fdiv (v_X0_tick_9 u) 40)) 0) (okm_X0_tick_14 u hO))
theorem ok_X0_tick_ad5 (u : CarS) (hO : CarOK u) : kpOK (f_X0_tick_ad5 u) := by
  (try simp only [f_X0_tick_ad5]); exact (ok_X5_countLocked_h (v_X0_tick_15 u) (mx (((u.1 0) 0) - (f_fdiv (v_X0_tick_9 u) 40)) 0) (okm_X0_tick_16 u hO))
theorem ok_X0_tick_ad6 (u : CarS) (hO : CarOK u) : kpOK (f_X0_tick_ad6 u) := by
  (try simp only [f_X0_tick_ad6]); exact (ok_X5_countLocked_h (v_X0_tick_17 u) (mx (((u.1 0) 0) - (f_fdiv (v_X0_tick_9 u) 40)) 0) (okm_X0_tick_18 u hO))
theorem ok_X0_tick_ad11 (u : CarS) (hO : CarOK u) : lgOK (v_X0_tick_23 u) (v_X0_tick_24 u) := by
  (try simp only []); exact (okm_X0_tick_25 u hO)
theorem ok_X0_tick_ad15 (u : CarS) (hO : CarOK u) : rdOK (f_X0_tick_ad15_cn u) := by
  (try simp only [f_X0_tick_ad15_cn]); exact (ok_X3_dropPassed_h (u.2 2) (u.1 13) (((u.1 0) 1) + (f_fdiv ((u.1 0) 0) 100)) hO.2.2.2.2.2.1)
theorem ok_X0_tick_ad19 (u : CarS) (hO : CarOK u) : pnOK (f_X0_tick_ad19_pn u) := by
  (try simp only [f_X0_tick_ad19_pn]); exact (ok_X4_takeDemand_h (u.2 3) (u.1 16) (((u.1 0) 2) + 1) hO.2.2.2.2.2.2)
set_option maxHeartbeats 4000000 in
set_option maxRecDepth 100000 in
theorem c_X0_tick (l : Launch) (D : va_G) (ty : Nat → ClassId) (ad : Nat → Nat) (u : CarS) (hO : CarOK u) : MC l D ty yX0_tick cX0_tick 3 none 5 [.ref (ad 0)] [((ad 0), caE (u.1 0) (ad 1) (ad 2) (ad 11) (ad 15) (ad 19)), ((ad 1), ctE (u.1 1) (ad 2) (ad 11)), ((ad 2), waE ty (ad 3) (ad 4) (ad 5) (ad 6)), ((ad 3), whE (u.1 2) (ad 7)), ((ad 4), whE (u.1 3) (ad 8)), ((ad 5), whE (u.1 4) (ad 9)), ((ad 6), whE (u.1 5) (ad 10)), ((ad 7), arE ty 5 (u.1 6)), ((ad 8), arE ty 5 (u.1 7)), ((ad 9), arE ty 5 (u.1 8)), ((ad 10), arE ty 5 (u.1 9)), ((ad 11), loE (u.2 0) (u.2 1) (ad 12) (ad 13) (ad 14)), ((ad 12), arE ty 40 (u.1 10)), ((ad 13), arE ty 40 (u.1 11)), ((ad 14), arE ty 40 (u.1 12)), ((ad 15), roE (u.2 2) (ad 16) (ad 17) (ad 18)), ((ad 16), arE ty 12 (u.1 13)), ((ad 17), arE ty 12 (u.1 14)), ((ad 18), arE ty 12 (u.1 15)), ((ad 19), scE (u.2 3) (ad 20) (ad 21)), ((ad 20), arE ty 10 (u.1 16)), ((ad 21), arE ty 10 (u.1 17))] none [((ad 0), caE (f_X0_tick_ad0 u) (ad 1) (ad 2) (ad 11) (ad 15) (ad 19)), ((ad 1), ctE (v_X0_tick_10 u) (ad 2) (ad 11)), ((ad 2), waE ty (ad 3) (ad 4) (ad 5) (ad 6)), ((ad 3), whE (f_X0_tick_ad3 u) (ad 7)), ((ad 4), whE (f_X0_tick_ad4 u) (ad 8)), ((ad 5), whE (f_X0_tick_ad5 u) (ad 9)), ((ad 6), whE (f_X0_tick_ad6 u) (ad 10)), ((ad 7), arE ty 5 (v_X0_tick_19 u)), ((ad 8), arE ty 5 (v_X0_tick_20 u)), ((ad 9), arE ty 5 (v_X0_tick_21 u)), ((ad 10), arE ty 5 (v_X0_tick_22 u)), ((ad 11), loE (v_X0_tick_23 u) (v_X0_tick_24 u) (ad 12) (ad 13) (ad 14)), ((ad 12), arE ty 40 (v_X0_tick_26 u)), ((ad 13), arE ty 40 (v_X0_tick_27 u)), ((ad 14), arE ty 40 (v_X0_tick_28 u)), ((ad 15), roE (f_X0_tick_ad15_cn u) (ad 16) (ad 17) (ad 18)), ((ad 16), arE ty 12 (f_X0_tick_ad16 u)), ((ad 17), arE ty 12 (f_X0_tick_ad17 u)), ((ad 18), arE ty 12 (f_X0_tick_ad18 u)), ((ad 19), scE (f_X0_tick_ad19_pn u) (ad 20) (ad 21)), ((ad 20), arE ty 10 (f_X0_tick_ad20 u)), ((ad 21), arE ty 10 (f_X0_tick_ad21 u))] := by
  refine mc_v (by decide +kernel) (Nat.le_of_ble_eq_true rfl) ?_
  intro p e s m args below meth c A Q ls C hK hA X hret hl
  have hx := C.1
  have hb := C.2.1
  have hl : lv_has ls 3 [(0, .ref (ad 0))] := hl
  have X : Wd D A s.heap [((ad 0), caE (u.1 0) (ad 1) (ad 2) (ad 11) (ad 15) (ad 19)), ((ad 1), ctE (u.1 1) (ad 2) (ad 11)), ((ad 2), waE ty (ad 3) (ad 4) (ad 5) (ad 6)), ((ad 3), whE (u.1 2) (ad 7)), ((ad 4), whE (u.1 3) (ad 8)), ((ad 5), whE (u.1 4) (ad 9)), ((ad 6), whE (u.1 5) (ad 10)), ((ad 7), arE ty 5 (u.1 6)), ((ad 8), arE ty 5 (u.1 7)), ((ad 9), arE ty 5 (u.1 8)), ((ad 10), arE ty 5 (u.1 9)), ((ad 11), loE (u.2 0) (u.2 1) (ad 12) (ad 13) (ad 14)), ((ad 12), arE ty 40 (u.1 10)), ((ad 13), arE ty 40 (u.1 11)), ((ad 14), arE ty 40 (u.1 12)), ((ad 15), roE (u.2 2) (ad 16) (ad 17) (ad 18)), ((ad 16), arE ty 12 (u.1 13)), ((ad 17), arE ty 12 (u.1 14)), ((ad 18), arE ty 12 (u.1 15)), ((ad 19), scE (u.2 3) (ad 20) (ad 21)), ((ad 20), arE ty 10 (u.1 16)), ((ad 21), arE ty 10 (u.1 17))] s.heap [] := X
  refine lv_aload_n hx hb dX0_tick_0 rfl (lv_at hl 0 rfl) ?_
  refine lv_dup hx hb dX0_tick_1 rfl ?_
  refine get_ca_7 C hK X 0 rfl fl_X0_55 dX0_tick_2 ?_
  refine lv_iconst (v := 1) hx hb dX0_tick_5 (by decide) ?_
  refine lv_iadd hx hb dX0_tick_6 ?_
  refine put_ca_7 C hK X 0 rfl pl_X0_55 dX0_tick_7 (fun H locs X => ?_)
  have X : Wd D A s.heap [((ad 0), caE (upd (u.1 0) 2 (((u.1 0) 2) + 1)) (ad 1) (ad 2) (ad 11) (ad 15) (ad 19)), ((ad 1), ctE (u.1 1) (ad 2) (ad 11)), ((ad 2), waE ty (ad 3) (ad 4) (ad 5) (ad 6)), ((ad 3), whE (u.1 2) (ad 7)), ((ad 4), whE (u.1 3) (ad 8)), ((ad 5), whE (u.1 4) (ad 9)), ((ad 6), whE (u.1 5) (ad 10)), ((ad 7), arE ty 5 (u.1 6)), ((ad 8), arE ty 5 (u.1 7)), ((ad 9), arE ty 5 (u.1 8)), ((ad 10), arE ty 5 (u.1 9)), ((ad 11), loE (u.2 0) (u.2 1) (ad 12) (ad 13) (ad 14)), ((ad 12), arE ty 40 (u.1 10)), ((ad 13), arE ty 40 (u.1 11)), ((ad 14), arE ty 40 (u.1 12)), ((ad 15), roE (u.2 2) (ad 16) (ad 17) (ad 18)), ((ad 16), arE ty 12 (u.1 13)), ((ad 17), arE ty 12 (u.1 14)), ((ad 18), arE ty 12 (u.1 15)), ((ad 19), scE (u.2 3) (ad 20) (ad 21)), ((ad 20), arE ty 10 (u.1 16)), ((ad 21), arE ty 10 (u.1 17))] H locs := X
  refine lv_aload_n hx hb dX0_tick_10 rfl (lv_at hl 0 rfl) ?_
  refine lv_aload_n hx hb dX0_tick_11 rfl (lv_at hl 0 rfl) ?_
  refine get_ca_4 C hK X 0 rfl fl_X0_38 dX0_tick_12 ?_
  refine lv_aload_n hx hb dX0_tick_15 rfl (lv_at hl 0 rfl) ?_
  refine get_ca_7 C hK X 0 rfl fl_X0_55 dX0_tick_16 ?_
  refine s_eqi (y := (((u.1 0) 2) + 1)) pk_us ?_
  refine lv_aload_n hx hb dX0_tick_19 rfl (lv_at hl 0 rfl) ?_
  refine get_ca_8 C hK X 0 rfl fl_X0_58 dX0_tick_20 ?_
  refine s_eqi (y := ((u.1 0) 3)) (pk_un (by decide)) ?_
  refine s_cVi (ws' := [((ad 0), caE (upd (u.1 0) 2 (((u.1 0) 2) + 1)) (ad 1) (ad 2) (ad 11) (ad 15) (ad 19)), ((ad 1), ctE (u.1 1) (ad 2) (ad 11)), ((ad 2), waE ty (ad 3) (ad 4) (ad 5) (ad 6)), ((ad 3), whE (u.1 2) (ad 7)), ((ad 4), whE (u.1 3) (ad 8)), ((ad 5), whE (u.1 4) (ad 9)), ((ad 6), whE (u.1 5) (ad 10)), ((ad 7), arE ty 5 (u.1 6)), ((ad 8), arE ty 5 (u.1 7)), ((ad 9), arE ty 5 (u.1 8)), ((ad 10), arE ty 5 (u.1 9)), ((ad 11), loE (u.2 0) (u.2 1) (ad 12) (ad 13) (ad 14)), ((ad 12), arE ty 40 (u.1 10)), ((ad 13), arE ty 40 (u.1 11)), ((ad 14), arE ty 40 (u.1 12)), ((ad 15), roE (u.2 2) (ad 16) (ad 17) (ad 18)), ((ad 16), arE ty 12 (u.1 13)), ((ad 17), arE ty 12 (u.1 14)), ((ad 18), arE ty 12 (u.1 15)), ((ad 19), scE (f_X4_takeDemand_h_pn (u.2 3) (u.1 16) (((u.1 0) 2) + 1)) (ad 20) (ad 21)), ((ad 20), arE ty 10 (f_X4_takeDemand_t (u.2 3) (u.1 16) (((u.1 0) 2) + 1))), ((ad 21), arE ty 10 (f_X4_takeDemand_d (u.2 3) (u.1 16) (u.1 17) (((u.1 0) 2) + 1)))]) C hK hA X (c_X4_takeDemand l D ty (ad 19) (ad 20) (ad 21) (u.2 3) (u.1 16) (u.1 17) (((u.1 0) 2) + 1) ((u.1 0) 3) hO.2.2.2.2.2.2) [19, 20, 21] (pk_c rfl (pk_c rfl (pk_c rfl pk_n))) rfl (pk_c rfl (pk_c rfl (pk_c rfl pk_n))) (em_f (em_f (em_f (em_f (em_f (em_f (em_f (em_f (em_f (em_f (em_f (em_f (em_f (em_f (em_f (em_f (em_f (em_f (em_f (em_t (em_t (em_t em_n)))))))))))))))))))))) rfl ml_X4_takeDemand wm_X0_75 (q0 := 0) rfl rfl rfl ⟨Nat.le_of_ble_eq_true rfl, Nat.le_of_ble_eq_true rfl⟩ ⟨Nat.zero_le _, Nat.zero_le _⟩ hl.1 rfl (Nat.le_of_ble_eq_true rfl) dX0_tick_23 (fun H locs X => ?_)
  refine put_ca_8 C hK X 0 rfl pl_X0_58 dX0_tick_26 (fun H locs X => ?_)
  have X : Wd D A s.heap [((ad 0), caE (upd (upd (u.1 0) 2 (((u.1 0) 2) + 1)) 3 (f_X4_takeDemand (u.2 3) (u.1 16) (u.1 17) (((u.1 0) 2) + 1) ((u.1 0) 3))) (ad 1) (ad 2) (ad 11) (ad 15) (ad 19)), ((ad 1), ctE (u.1 1) (ad 2) (ad 11)), ((ad 2), waE ty (ad 3) (ad 4) (ad 5) (ad 6)), ((ad 3), whE (u.1 2) (ad 7)), ((ad 4), whE (u.1 3) (ad 8)), ((ad 5), whE (u.1 4) (ad 9)), ((ad 6), whE (u.1 5) (ad 10)), ((ad 7), arE ty 5 (u.1 6)), ((ad 8), arE ty 5 (u.1 7)), ((ad 9), arE ty 5 (u.1 8)), ((ad 10), arE ty 5 (u.1 9)), ((ad 11), loE (u.2 0) (u.2 1) (ad 12) (ad 13) (ad 14)), ((ad 12), arE ty 40 (u.1 10)), ((ad 13), arE ty 40 (u.1 11)), ((ad 14), arE ty 40 (u.1 12)), ((ad 15), roE (u.2 2) (ad 16) (ad 17) (ad 18)), ((ad 16), arE ty 12 (u.1 13)), ((ad 17), arE ty 12 (u.1 14)), ((ad 18), arE ty 12 (u.1 15)), ((ad 19), scE (f_X4_takeDemand_h_pn (u.2 3) (u.1 16) (((u.1 0) 2) + 1)) (ad 20) (ad 21)), ((ad 20), arE ty 10 (f_X4_takeDemand_t (u.2 3) (u.1 16) (((u.1 0) 2) + 1))), ((ad 21), arE ty 10 (f_X4_takeDemand_d (u.2 3) (u.1 16) (u.1 17) (((u.1 0) 2) + 1)))] H locs := X
  refine lv_aload_n hx hb dX0_tick_29 rfl (lv_at hl 0 rfl) ?_
  refine s_cVi (ws' := [((ad 0), caE (upd (upd (u.1 0) 2 (((u.1 0) 2) + 1)) 3 (f_X4_takeDemand (u.2 3) (u.1 16) (u.1 17) (((u.1 0) 2) + 1) ((u.1 0) 3))) (ad 1) (ad 2) (ad 11) (ad 15) (ad 19)), ((ad 1), ctE (u.1 1) (ad 2) (ad 11)), ((ad 2), waE ty (ad 3) (ad 4) (ad 5) (ad 6)), ((ad 3), whE (v_X0_tick_1 u) (ad 7)), ((ad 4), whE (v_X0_tick_3 u) (ad 8)), ((ad 5), whE (v_X0_tick_5 u) (ad 9)), ((ad 6), whE (v_X0_tick_7 u) (ad 10)), ((ad 7), arE ty 5 (u.1 6)), ((ad 8), arE ty 5 (u.1 7)), ((ad 9), arE ty 5 (u.1 8)), ((ad 10), arE ty 5 (u.1 9)), ((ad 11), loE (u.2 0) (u.2 1) (ad 12) (ad 13) (ad 14)), ((ad 12), arE ty 40 (u.1 10)), ((ad 13), arE ty 40 (u.1 11)), ((ad 14), arE ty 40 (u.1 12)), ((ad 15), roE (u.2 2) (ad 16) (ad 17) (ad 18)), ((ad 16), arE ty 12 (u.1 13)), ((ad 17), arE ty 12 (u.1 14)), ((ad 18), arE ty 12 (u.1 15)), ((ad 19), scE (f_X4_takeDemand_h_pn (u.2 3) (u.1 16) (((u.1 0) 2) + 1)) (ad 20) (ad 21)), ((ad 20), arE ty 10 (f_X4_takeDemand_t (u.2 3) (u.1 16) (((u.1 0) 2) + 1))), ((ad 21), arE ty 10 (f_X4_takeDemand_d (u.2 3) (u.1 16) (u.1 17) (((u.1 0) 2) + 1)))]) C hK hA X (c_X0_findGrips l D ty (ad 0) (ad 1) (ad 2) (ad 11) (ad 15) (ad 19) (ad 3) (ad 4) (ad 5) (ad 6) (ad 7) (ad 8) (ad 9) (ad 10) (ad 16) (ad 17) (ad 18) (u.2 2) (upd (upd (u.1 0) 2 (((u.1 0) 2) + 1)) 3 (f_X4_takeDemand (u.2 3) (u.1 16) (u.1 17) (((u.1 0) 2) + 1) ((u.1 0) 3))) (u.1 2) (u.1 3) (u.1 4) (u.1 5) (u.1 13) (u.1 14) (u.1 15) hO.2.2.2.2.2.1) [0, 2, 3, 4, 5, 6, 15, 16, 17, 18] (pk_c rfl (pk_c rfl (pk_c rfl (pk_c rfl (pk_c rfl (pk_c rfl (pk_c rfl (pk_c rfl (pk_c rfl (pk_c rfl pk_n)))))))))) rfl (pk_c rfl (pk_c rfl (pk_c rfl (pk_c rfl (pk_c rfl (pk_c rfl (pk_c rfl (pk_c rfl (pk_c rfl (pk_c rfl pk_n)))))))))) (em_t (em_f (em_t (em_t (em_t (em_t (em_t (em_f (em_f (em_f (em_f (em_f (em_f (em_f (em_f (em_t (em_t (em_t (em_t (em_f (em_f (em_f em_n)))))))))))))))))))))) rfl ml_X0_findGrips wm_X0_79 (q0 := 0) rfl rfl rfl ⟨Nat.le_of_ble_eq_true rfl, Nat.le_of_ble_eq_true rfl⟩ ⟨Nat.zero_le _, Nat.zero_le _⟩ hl.1 rfl (Nat.le_of_ble_eq_true rfl) dX0_tick_30 (fun H locs X => ?_)
  refine s_eqi (y := (v_X0_tick_9 u)) rfl ?_
  refine lv_istore_n (lv' := [(1, .int (v_X0_tick_9 u)), (0, .ref (ad 0))]) hx hb dX0_tick_33 rfl hl (by decide) rfl (fun ls hl => ?_)
  refine lv_aload_n hx hb dX0_tick_34 rfl (lv_at hl 1 rfl) ?_
  refine lv_dup hx hb dX0_tick_35 rfl ?_
  refine get_ca_6 C hK X 0 rfl fl_X0_52 dX0_tick_36 ?_
  refine s_eqi (y := ((u.1 0) 1)) ((pk_un (by decide)).trans (pk_un (by decide))) ?_
  refine lv_aload_n hx hb dX0_tick_39 rfl (lv_at hl 1 rfl) ?_
  refine get_ca_5 C hK X 0 rfl fl_X0_48 dX0_tick_40 ?_
  refine s_eqi (y := ((u.1 0) 0)) ((pk_un (by decide)).trans (pk_un (by decide))) ?_
  refine lv_bipush (v := 100) hx hb dX0_tick_43 (by decide) ?_
  refine s_cS0i C hK hA X (c_fdiv l D ty ((u.1 0) 0) 100 (by decide)) [] pk_n rfl sl_J9_floorDiv_7cf53 wm_X0_83 ⟨Nat.le_of_ble_eq_true rfl, Nat.le_of_ble_eq_true rfl⟩ ⟨Nat.zero_le _, Nat.zero_le _⟩ hl.1 rfl (Nat.le_of_ble_eq_true rfl) dX0_tick_45 (fun H locs X => ?_)
  refine lv_iadd hx hb dX0_tick_48 ?_
  refine put_ca_6 C hK X 0 rfl pl_X0_52 dX0_tick_49 (fun H locs X => ?_)
  have X : Wd D A s.heap [((ad 0), caE (upd (upd (upd (u.1 0) 2 (((u.1 0) 2) + 1)) 3 (f_X4_takeDemand (u.2 3) (u.1 16) (u.1 17) (((u.1 0) 2) + 1) ((u.1 0) 3))) 1 (((u.1 0) 1) + (f_fdiv ((u.1 0) 0) 100))) (ad 1) (ad 2) (ad 11) (ad 15) (ad 19)), ((ad 1), ctE (u.1 1) (ad 2) (ad 11)), ((ad 2), waE ty (ad 3) (ad 4) (ad 5) (ad 6)), ((ad 3), whE (v_X0_tick_1 u) (ad 7)), ((ad 4), whE (v_X0_tick_3 u) (ad 8)), ((ad 5), whE (v_X0_tick_5 u) (ad 9)), ((ad 6), whE (v_X0_tick_7 u) (ad 10)), ((ad 7), arE ty 5 (u.1 6)), ((ad 8), arE ty 5 (u.1 7)), ((ad 9), arE ty 5 (u.1 8)), ((ad 10), arE ty 5 (u.1 9)), ((ad 11), loE (u.2 0) (u.2 1) (ad 12) (ad 13) (ad 14)), ((ad 12), arE ty 40 (u.1 10)), ((ad 13), arE ty 40 (u.1 11)), ((ad 14), arE ty 40 (u.1 12)), ((ad 15), roE (u.2 2) (ad 16) (ad 17) (ad 18)), ((ad 16), arE ty 12 (u.1 13)), ((ad 17), arE ty 12 (u.1 14)), ((ad 18), arE ty 12 (u.1 15)), ((ad 19), scE (f_X4_takeDemand_h_pn (u.2 3) (u.1 16) (((u.1 0) 2) + 1)) (ad 20) (ad 21)), ((ad 20), arE ty 10 (f_X4_takeDemand_t (u.2 3) (u.1 16) (((u.1 0) 2) + 1))), ((ad 21), arE ty 10 (f_X4_takeDemand_d (u.2 3) (u.1 16) (u.1 17) (((u.1 0) 2) + 1)))] H locs := X
  refine lv_aload_n hx hb dX0_tick_52 rfl (lv_at hl 1 rfl) ?_
  refine lv_aload_n hx hb dX0_tick_53 rfl (lv_at hl 1 rfl) ?_
  refine get_ca_5 C hK X 0 rfl fl_X0_48 dX0_tick_54 ?_
  refine s_eqi (y := ((u.1 0) 0)) ((pk_un (by decide)).trans ((pk_un (by decide)).trans (pk_un (by decide)))) ?_
  refine lv_iload_n hx hb dX0_tick_57 rfl (lv_at hl 0 rfl) ?_
  refine lv_bipush (v := 40) hx hb dX0_tick_58 (by decide) ?_
  refine s_cS0i C hK hA X (c_fdiv l D ty (v_X0_tick_9 u) 40 (by decide)) [] pk_n rfl sl_J9_floorDiv_7cf53 wm_X0_83 ⟨Nat.le_of_ble_eq_true rfl, Nat.le_of_ble_eq_true rfl⟩ ⟨Nat.zero_le _, Nat.zero_le _⟩ hl.1 rfl (Nat.le_of_ble_eq_true rfl) dX0_tick_60 (fun H locs X => ?_)
  refine lv_isub hx hb dX0_tick_63 ?_
  refine lv_iconst (v := 0) hx hb dX0_tick_64 (by decide) ?_
  refine s_mx C hl.1 wm_X0_88 (Nat.le_of_ble_eq_true rfl) (Nat.le_of_ble_eq_true rfl) ⟨Nat.zero_le _, Nat.zero_le _⟩ dX0_tick_65 ?_
  refine put_ca_5 C hK X 0 rfl pl_X0_48 dX0_tick_68 (fun H locs X => ?_)
  have X : Wd D A s.heap [((ad 0), caE (upd (upd (upd (upd (u.1 0) 2 (((u.1 0) 2) + 1)) 3 (f_X4_takeDemand (u.2 3) (u.1 16) (u.1 17) (((u.1 0) 2) + 1) ((u.1 0) 3))) 1 (((u.1 0) 1) + (f_fdiv ((u.1 0) 0) 100))) 0 (mx (((u.1 0) 0) - (f_fdiv (v_X0_tick_9 u) 40)) 0)) (ad 1) (ad 2) (ad 11) (ad 15) (ad 19)), ((ad 1), ctE (u.1 1) (ad 2) (ad 11)), ((ad 2), waE ty (ad 3) (ad 4) (ad 5) (ad 6)), ((ad 3), whE (v_X0_tick_1 u) (ad 7)), ((ad 4), whE (v_X0_tick_3 u) (ad 8)), ((ad 5), whE (v_X0_tick_5 u) (ad 9)), ((ad 6), whE (v_X0_tick_7 u) (ad 10)), ((ad 7), arE ty 5 (u.1 6)), ((ad 8), arE ty 5 (u.1 7)), ((ad 9), arE ty 5 (u.1 8)), ((ad 10), arE ty 5 (u.1 9)), ((ad 11), loE (u.2 0) (u.2 1) (ad 12) (ad 13) (ad 14)), ((ad 12), arE ty 40 (u.1 10)), ((ad 13), arE ty 40 (u.1 11)), ((ad 14), arE ty 40 (u.1 12)), ((ad 15), roE (u.2 2) (ad 16) (ad 17) (ad 18)), ((ad 16), arE ty 12 (u.1 13)), ((ad 17), arE ty 12 (u.1 14)), ((ad 18), arE ty 12 (u.1 15)), ((ad 19), scE (f_X4_takeDemand_h_pn (u.2 3) (u.1 16) (((u.1 0) 2) + 1)) (ad 20) (ad 21)), ((ad 20), arE ty 10 (f_X4_takeDemand_t (u.2 3) (u.1 16) (((u.1 0) 2) + 1))), ((ad 21), arE ty 10 (f_X4_takeDemand_d (u.2 3) (u.1 16) (u.1 17) (((u.1 0) 2) + 1)))] H locs := X
  refine lv_iconst (v := 0) hx hb dX0_tick_71 (by decide) ?_
  refine lv_istore_n (lv' := [(2, .int 0), (1, .int (v_X0_tick_9 u)), (0, .ref (ad 0))]) hx hb dX0_tick_72 rfl hl (by decide) rfl (fun ls hl => ?_)
  refine lv_iload_n hx hb dX0_tick_73 rfl (lv_at hl 0 rfl) ?_
  refine lv_iconst (v := 4) hx hb dX0_tick_74 (by decide) ?_
  refine lv_icmp_ge (tgt := 97) hx hb dX0_tick_75 (by decide) (fun c0 => absurd c0 (by decide)) (fun _ => ?_)
  refine lv_aload_n hx hb dX0_tick_78 rfl (lv_at hl 2 rfl) ?_
  refine get_ca_1 C hK X 0 rfl fl_X0_22 dX0_tick_79 ?_
  refine lv_iload_n hx hb dX0_tick_82 rfl (lv_at hl 0 rfl) ?_
  refine s_aald (t0 := 2) (b := (ad 3)) C hK X 2 rfl rfl (vp_in_nI (n := 0) (by decide) (by decide)) rfl dX0_tick_83 ?_
  refine lv_aload_n hx hb dX0_tick_84 rfl (lv_at hl 2 rfl) ?_
  refine get_ca_5 C hK X 0 rfl fl_X0_48 dX0_tick_85 ?_
  refine s_eqi (y := (mx (((u.1 0) 0) - (f_fdiv (v_X0_tick_9 u) 40)) 0)) pk_us ?_
  refine s_cVv (ws' := [((ad 0), caE (upd (upd (upd (upd (u.1 0) 2 (((u.1 0) 2) + 1)) 3 (f_X4_takeDemand (u.2 3) (u.1 16) (u.1 17) (((u.1 0) 2) + 1) ((u.1 0) 3))) 1 (((u.1 0) 1) + (f_fdiv ((u.1 0) 0) 100))) 0 (mx (((u.1 0) 0) - (f_fdiv (v_X0_tick_9 u) 40)) 0)) (ad 1) (ad 2) (ad 11) (ad 15) (ad 19)), ((ad 1), ctE (u.1 1) (ad 2) (ad 11)), ((ad 2), waE ty (ad 3) (ad 4) (ad 5) (ad 6)), ((ad 3), whE (f_X5_turn_h (v_X0_tick_1 u) (mx (((u.1 0) 0) - (f_fdiv (v_X0_tick_9 u) 40)) 0)) (ad 7)), ((ad 4), whE (v_X0_tick_3 u) (ad 8)), ((ad 5), whE (v_X0_tick_5 u) (ad 9)), ((ad 6), whE (v_X0_tick_7 u) (ad 10)), ((ad 7), arE ty 5 (u.1 6)), ((ad 8), arE ty 5 (u.1 7)), ((ad 9), arE ty 5 (u.1 8)), ((ad 10), arE ty 5 (u.1 9)), ((ad 11), loE (u.2 0) (u.2 1) (ad 12) (ad 13) (ad 14)), ((ad 12), arE ty 40 (u.1 10)), ((ad 13), arE ty 40 (u.1 11)), ((ad 14), arE ty 40 (u.1 12)), ((ad 15), roE (u.2 2) (ad 16) (ad 17) (ad 18)), ((ad 16), arE ty 12 (u.1 13)), ((ad 17), arE ty 12 (u.1 14)), ((ad 18), arE ty 12 (u.1 15)), ((ad 19), scE (f_X4_takeDemand_h_pn (u.2 3) (u.1 16) (((u.1 0) 2) + 1)) (ad 20) (ad 21)), ((ad 20), arE ty 10 (f_X4_takeDemand_t (u.2 3) (u.1 16) (((u.1 0) 2) + 1))), ((ad 21), arE ty 10 (f_X4_takeDemand_d (u.2 3) (u.1 16) (u.1 17) (((u.1 0) 2) + 1)))]) C hK hA X (c_X5_turn l D ty (ad 3) (ad 7) (v_X0_tick_1 u) (mx (((u.1 0) 0) - (f_fdiv (v_X0_tick_9 u) 40)) 0)) [3] (pk_c rfl pk_n) rfl (pk_c rfl pk_n) (em_f (em_f (em_f (em_t (em_f (em_f (em_f (em_f (em_f (em_f (em_f (em_f (em_f (em_f (em_f (em_f (em_f (em_f (em_f (em_f (em_f (em_f em_n)))))))))))))))))))))) rfl ml_X5_turn wm_X0_91 (q0 := 0) rfl rfl rfl ⟨Nat.le_of_ble_eq_true rfl, Nat.le_of_ble_eq_true rfl⟩ ⟨Nat.zero_le _, Nat.zero_le _⟩ hl.1 rfl (Nat.le_of_ble_eq_true rfl) dX0_tick_88 (fun H locs X => ?_)
  refine lv_iinc (v := 1) (lv' := [(2, .int 1), (1, .int (v_X0_tick_9 u)), (0, .ref (ad 0))]) hx hb dX0_tick_91 hl (k := 0) rfl (by decide) (by decide) rfl (fun ls hl => ?_)
  refine lv_goto (tgt := 73) hx hb dX0_tick_94 (by decide) ?_
  refine lv_iload_n hx hb dX0_tick_73 rfl (lv_at hl 0 rfl) ?_
  refine lv_iconst (v := 4) hx hb dX0_tick_74 (by decide) ?_
  refine lv_icmp_ge (tgt := 97) hx hb dX0_tick_75 (by decide) (fun c0 => absurd c0 (by decide)) (fun _ => ?_)
  refine lv_aload_n hx hb dX0_tick_78 rfl (lv_at hl 2 rfl) ?_
  refine get_ca_1 C hK X 0 rfl fl_X0_22 dX0_tick_79 ?_
  refine lv_iload_n hx hb dX0_tick_82 rfl (lv_at hl 0 rfl) ?_
  refine s_aald (t0 := 2) (b := (ad 4)) C hK X 2 rfl rfl (vp_in_nI (n := 1) (by decide) (by decide)) rfl dX0_tick_83 ?_
  refine lv_aload_n hx hb dX0_tick_84 rfl (lv_at hl 2 rfl) ?_
  refine get_ca_5 C hK X 0 rfl fl_X0_48 dX0_tick_85 ?_
  refine s_eqi (y := (mx (((u.1 0) 0) - (f_fdiv (v_X0_tick_9 u) 40)) 0)) pk_us ?_
  refine s_cVv (ws' := [((ad 0), caE (upd (upd (upd (upd (u.1 0) 2 (((u.1 0) 2) + 1)) 3 (f_X4_takeDemand (u.2 3) (u.1 16) (u.1 17) (((u.1 0) 2) + 1) ((u.1 0) 3))) 1 (((u.1 0) 1) + (f_fdiv ((u.1 0) 0) 100))) 0 (mx (((u.1 0) 0) - (f_fdiv (v_X0_tick_9 u) 40)) 0)) (ad 1) (ad 2) (ad 11) (ad 15) (ad 19)), ((ad 1), ctE (u.1 1) (ad 2) (ad 11)), ((ad 2), waE ty (ad 3) (ad 4) (ad 5) (ad 6)), ((ad 3), whE (f_X5_turn_h (v_X0_tick_1 u) (mx (((u.1 0) 0) - (f_fdiv (v_X0_tick_9 u) 40)) 0)) (ad 7)), ((ad 4), whE (f_X5_turn_h (v_X0_tick_3 u) (mx (((u.1 0) 0) - (f_fdiv (v_X0_tick_9 u) 40)) 0)) (ad 8)), ((ad 5), whE (v_X0_tick_5 u) (ad 9)), ((ad 6), whE (v_X0_tick_7 u) (ad 10)), ((ad 7), arE ty 5 (u.1 6)), ((ad 8), arE ty 5 (u.1 7)), ((ad 9), arE ty 5 (u.1 8)), ((ad 10), arE ty 5 (u.1 9)), ((ad 11), loE (u.2 0) (u.2 1) (ad 12) (ad 13) (ad 14)), ((ad 12), arE ty 40 (u.1 10)), ((ad 13), arE ty 40 (u.1 11)), ((ad 14), arE ty 40 (u.1 12)), ((ad 15), roE (u.2 2) (ad 16) (ad 17) (ad 18)), ((ad 16), arE ty 12 (u.1 13)), ((ad 17), arE ty 12 (u.1 14)), ((ad 18), arE ty 12 (u.1 15)), ((ad 19), scE (f_X4_takeDemand_h_pn (u.2 3) (u.1 16) (((u.1 0) 2) + 1)) (ad 20) (ad 21)), ((ad 20), arE ty 10 (f_X4_takeDemand_t (u.2 3) (u.1 16) (((u.1 0) 2) + 1))), ((ad 21), arE ty 10 (f_X4_takeDemand_d (u.2 3) (u.1 16) (u.1 17) (((u.1 0) 2) + 1)))]) C hK hA X (c_X5_turn l D ty (ad 4) (ad 8) (v_X0_tick_3 u) (mx (((u.1 0) 0) - (f_fdiv (v_X0_tick_9 u) 40)) 0)) [4] (pk_c rfl pk_n) rfl (pk_c rfl pk_n) (em_f (em_f (em_f (em_f (em_t (em_f (em_f (em_f (em_f (em_f (em_f (em_f (em_f (em_f (em_f (em_f (em_f (em_f (em_f (em_f (em_f (em_f em_n)))))))))))))))))))))) rfl ml_X5_turn wm_X0_91 (q0 := 0) rfl rfl rfl ⟨Nat.le_of_ble_eq_true rfl, Nat.le_of_ble_eq_true rfl⟩ ⟨Nat.zero_le _, Nat.zero_le _⟩ hl.1 rfl (Nat.le_of_ble_eq_true rfl) dX0_tick_88 (fun H locs X => ?_)
  refine lv_iinc (v := 2) (lv' := [(2, .int 2), (1, .int (v_X0_tick_9 u)), (0, .ref (ad 0))]) hx hb dX0_tick_91 hl (k := 0) rfl (by decide) (by decide) rfl (fun ls hl => ?_)
  refine lv_goto (tgt := 73) hx hb dX0_tick_94 (by decide) ?_
  refine lv_iload_n hx hb dX0_tick_73 rfl (lv_at hl 0 rfl) ?_
  refine lv_iconst (v := 4) hx hb dX0_tick_74 (by decide) ?_
  refine lv_icmp_ge (tgt := 97) hx hb dX0_tick_75 (by decide) (fun c0 => absurd c0 (by decide)) (fun _ => ?_)
  refine lv_aload_n hx hb dX0_tick_78 rfl (lv_at hl 2 rfl) ?_
  refine get_ca_1 C hK X 0 rfl fl_X0_22 dX0_tick_79 ?_
  refine lv_iload_n hx hb dX0_tick_82 rfl (lv_at hl 0 rfl) ?_
  refine s_aald (t0 := 2) (b := (ad 5)) C hK X 2 rfl rfl (vp_in_nI (n := 2) (by decide) (by decide)) rfl dX0_tick_83 ?_
  refine lv_aload_n hx hb dX0_tick_84 rfl (lv_at hl 2 rfl) ?_
  refine get_ca_5 C hK X 0 rfl fl_X0_48 dX0_tick_85 ?_
  refine s_eqi (y := (mx (((u.1 0) 0) - (f_fdiv (v_X0_tick_9 u) 40)) 0)) pk_us ?_
  refine s_cVv (ws' := [((ad 0), caE (upd (upd (upd (upd (u.1 0) 2 (((u.1 0) 2) + 1)) 3 (f_X4_takeDemand (u.2 3) (u.1 16) (u.1 17) (((u.1 0) 2) + 1) ((u.1 0) 3))) 1 (((u.1 0) 1) + (f_fdiv ((u.1 0) 0) 100))) 0 (mx (((u.1 0) 0) - (f_fdiv (v_X0_tick_9 u) 40)) 0)) (ad 1) (ad 2) (ad 11) (ad 15) (ad 19)), ((ad 1), ctE (u.1 1) (ad 2) (ad 11)), ((ad 2), waE ty (ad 3) (ad 4) (ad 5) (ad 6)), ((ad 3), whE (f_X5_turn_h (v_X0_tick_1 u) (mx (((u.1 0) 0) - (f_fdiv (v_X0_tick_9 u) 40)) 0)) (ad 7)), ((ad 4), whE (f_X5_turn_h (v_X0_tick_3 u) (mx (((u.1 0) 0) - (f_fdiv (v_X0_tick_9 u) 40)) 0)) (ad 8)), ((ad 5), whE (f_X5_turn_h (v_X0_tick_5 u) (mx (((u.1 0) 0) - (f_fdiv (v_X0_tick_9 u) 40)) 0)) (ad 9)), ((ad 6), whE (v_X0_tick_7 u) (ad 10)), ((ad 7), arE ty 5 (u.1 6)), ((ad 8), arE ty 5 (u.1 7)), ((ad 9), arE ty 5 (u.1 8)), ((ad 10), arE ty 5 (u.1 9)), ((ad 11), loE (u.2 0) (u.2 1) (ad 12) (ad 13) (ad 14)), ((ad 12), arE ty 40 (u.1 10)), ((ad 13), arE ty 40 (u.1 11)), ((ad 14), arE ty 40 (u.1 12)), ((ad 15), roE (u.2 2) (ad 16) (ad 17) (ad 18)), ((ad 16), arE ty 12 (u.1 13)), ((ad 17), arE ty 12 (u.1 14)), ((ad 18), arE ty 12 (u.1 15)), ((ad 19), scE (f_X4_takeDemand_h_pn (u.2 3) (u.1 16) (((u.1 0) 2) + 1)) (ad 20) (ad 21)), ((ad 20), arE ty 10 (f_X4_takeDemand_t (u.2 3) (u.1 16) (((u.1 0) 2) + 1))), ((ad 21), arE ty 10 (f_X4_takeDemand_d (u.2 3) (u.1 16) (u.1 17) (((u.1 0) 2) + 1)))]) C hK hA X (c_X5_turn l D ty (ad 5) (ad 9) (v_X0_tick_5 u) (mx (((u.1 0) 0) - (f_fdiv (v_X0_tick_9 u) 40)) 0)) [5] (pk_c rfl pk_n) rfl (pk_c rfl pk_n) (em_f (em_f (em_f (em_f (em_f (em_t (em_f (em_f (em_f (em_f (em_f (em_f (em_f (em_f (em_f (em_f (em_f (em_f (em_f (em_f (em_f (em_f em_n)))))))))))))))))))))) rfl ml_X5_turn wm_X0_91 (q0 := 0) rfl rfl rfl ⟨Nat.le_of_ble_eq_true rfl, Nat.le_of_ble_eq_true rfl⟩ ⟨Nat.zero_le _, Nat.zero_le _⟩ hl.1 rfl (Nat.le_of_ble_eq_true rfl) dX0_tick_88 (fun H locs X => ?_)
  refine lv_iinc (v := 3) (lv' := [(2, .int 3), (1, .int (v_X0_tick_9 u)), (0, .ref (ad 0))]) hx hb dX0_tick_91 hl (k := 0) rfl (by decide) (by decide) rfl (fun ls hl => ?_)
  refine lv_goto (tgt := 73) hx hb dX0_tick_94 (by decide) ?_
  refine lv_iload_n hx hb dX0_tick_73 rfl (lv_at hl 0 rfl) ?_
  refine lv_iconst (v := 4) hx hb dX0_tick_74 (by decide) ?_
  refine lv_icmp_ge (tgt := 97) hx hb dX0_tick_75 (by decide) (fun c0 => absurd c0 (by decide)) (fun _ => ?_)
  refine lv_aload_n hx hb dX0_tick_78 rfl (lv_at hl 2 rfl) ?_
  refine get_ca_1 C hK X 0 rfl fl_X0_22 dX0_tick_79 ?_
  refine lv_iload_n hx hb dX0_tick_82 rfl (lv_at hl 0 rfl) ?_
  refine s_aald (t0 := 2) (b := (ad 6)) C hK X 2 rfl rfl (vp_in_nI (n := 3) (by decide) (by decide)) rfl dX0_tick_83 ?_
  refine lv_aload_n hx hb dX0_tick_84 rfl (lv_at hl 2 rfl) ?_
  refine get_ca_5 C hK X 0 rfl fl_X0_48 dX0_tick_85 ?_
  refine s_eqi (y := (mx (((u.1 0) 0) - (f_fdiv (v_X0_tick_9 u) 40)) 0)) pk_us ?_
  refine s_cVv (ws' := [((ad 0), caE (upd (upd (upd (upd (u.1 0) 2 (((u.1 0) 2) + 1)) 3 (f_X4_takeDemand (u.2 3) (u.1 16) (u.1 17) (((u.1 0) 2) + 1) ((u.1 0) 3))) 1 (((u.1 0) 1) + (f_fdiv ((u.1 0) 0) 100))) 0 (mx (((u.1 0) 0) - (f_fdiv (v_X0_tick_9 u) 40)) 0)) (ad 1) (ad 2) (ad 11) (ad 15) (ad 19)), ((ad 1), ctE (u.1 1) (ad 2) (ad 11)), ((ad 2), waE ty (ad 3) (ad 4) (ad 5) (ad 6)), ((ad 3), whE (f_X5_turn_h (v_X0_tick_1 u) (mx (((u.1 0) 0) - (f_fdiv (v_X0_tick_9 u) 40)) 0)) (ad 7)), ((ad 4), whE (f_X5_turn_h (v_X0_tick_3 u) (mx (((u.1 0) 0) - (f_fdiv (v_X0_tick_9 u) 40)) 0)) (ad 8)), ((ad 5), whE (f_X5_turn_h (v_X0_tick_5 u) (mx (((u.1 0) 0) - (f_fdiv (v_X0_tick_9 u) 40)) 0)) (ad 9)), ((ad 6), whE (f_X5_turn_h (v_X0_tick_7 u) (mx (((u.1 0) 0) - (f_fdiv (v_X0_tick_9 u) 40)) 0)) (ad 10)), ((ad 7), arE ty 5 (u.1 6)), ((ad 8), arE ty 5 (u.1 7)), ((ad 9), arE ty 5 (u.1 8)), ((ad 10), arE ty 5 (u.1 9)), ((ad 11), loE (u.2 0) (u.2 1) (ad 12) (ad 13) (ad 14)), ((ad 12), arE ty 40 (u.1 10)), ((ad 13), arE ty 40 (u.1 11)), ((ad 14), arE ty 40 (u.1 12)), ((ad 15), roE (u.2 2) (ad 16) (ad 17) (ad 18)), ((ad 16), arE ty 12 (u.1 13)), ((ad 17), arE ty 12 (u.1 14)), ((ad 18), arE ty 12 (u.1 15)), ((ad 19), scE (f_X4_takeDemand_h_pn (u.2 3) (u.1 16) (((u.1 0) 2) + 1)) (ad 20) (ad 21)), ((ad 20), arE ty 10 (f_X4_takeDemand_t (u.2 3) (u.1 16) (((u.1 0) 2) + 1))), ((ad 21), arE ty 10 (f_X4_takeDemand_d (u.2 3) (u.1 16) (u.1 17) (((u.1 0) 2) + 1)))]) C hK hA X (c_X5_turn l D ty (ad 6) (ad 10) (v_X0_tick_7 u) (mx (((u.1 0) 0) - (f_fdiv (v_X0_tick_9 u) 40)) 0)) [6] (pk_c rfl pk_n) rfl (pk_c rfl pk_n) (em_f (em_f (em_f (em_f (em_f (em_f (em_t (em_f (em_f (em_f (em_f (em_f (em_f (em_f (em_f (em_f (em_f (em_f (em_f (em_f (em_f (em_f em_n)))))))))))))))))))))) rfl ml_X5_turn wm_X0_91 (q0 := 0) rfl rfl rfl ⟨Nat.le_of_ble_eq_true rfl, Nat.le_of_ble_eq_true rfl⟩ ⟨Nat.zero_le _, Nat.zero_le _⟩ hl.1 rfl (Nat.le_of_ble_eq_true rfl) dX0_tick_88 (fun H locs X => ?_)
  refine lv_iinc (v := 4) (lv' := [(2, .int 4), (1, .int (v_X0_tick_9 u)), (0, .ref (ad 0))]) hx hb dX0_tick_91 hl (k := 0) rfl (by decide) (by decide) rfl (fun ls hl => ?_)
  refine lv_goto (tgt := 73) hx hb dX0_tick_94 (by decide) ?_
  refine lv_iload_n hx hb dX0_tick_73 rfl (lv_at hl 0 rfl) ?_
  refine lv_iconst (v := 4) hx hb dX0_tick_74 (by decide) ?_
  refine lv_icmp_ge (tgt := 97) hx hb dX0_tick_75 (by decide) (fun _ => ?_) (fun c0 => absurd (by decide) c0)
  refine lv_aload_n hx hb dX0_tick_97 rfl (lv_at hl 2 rfl) ?_
  refine get_ca_3 C hK X 0 rfl fl_X0_31 dX0_tick_98 ?_
  refine lv_aload_n hx hb dX0_tick_101 rfl (lv_at hl 2 rfl) ?_
  refine get_ca_6 C hK X 0 rfl fl_X0_52 dX0_tick_102 ?_
  refine s_eqi (y := (((u.1 0) 1) + (f_fdiv ((u.1 0) 0) 100))) ((pk_un (by decide)).trans pk_us) ?_
  refine s_cVv (ws' := [((ad 0), caE (upd (upd (upd (upd (u.1 0) 2 (((u.1 0) 2) + 1)) 3 (f_X4_takeDemand (u.2 3) (u.1 16) (u.1 17) (((u.1 0) 2) + 1) ((u.1 0) 3))) 1 (((u.1 0) 1) + (f_fdiv ((u.1 0) 0) 100))) 0 (mx (((u.1 0) 0) - (f_fdiv (v_X0_tick_9 u) 40)) 0)) (ad 1) (ad 2) (ad 11) (ad 15) (ad 19)), ((ad 1), ctE (u.1 1) (ad 2) (ad 11)), ((ad 2), waE ty (ad 3) (ad 4) (ad 5) (ad 6)), ((ad 3), whE (f_X5_turn_h (v_X0_tick_1 u) (mx (((u.1 0) 0) - (f_fdiv (v_X0_tick_9 u) 40)) 0)) (ad 7)), ((ad 4), whE (f_X5_turn_h (v_X0_tick_3 u) (mx (((u.1 0) 0) - (f_fdiv (v_X0_tick_9 u) 40)) 0)) (ad 8)), ((ad 5), whE (f_X5_turn_h (v_X0_tick_5 u) (mx (((u.1 0) 0) - (f_fdiv (v_X0_tick_9 u) 40)) 0)) (ad 9)), ((ad 6), whE (f_X5_turn_h (v_X0_tick_7 u) (mx (((u.1 0) 0) - (f_fdiv (v_X0_tick_9 u) 40)) 0)) (ad 10)), ((ad 7), arE ty 5 (u.1 6)), ((ad 8), arE ty 5 (u.1 7)), ((ad 9), arE ty 5 (u.1 8)), ((ad 10), arE ty 5 (u.1 9)), ((ad 11), loE (u.2 0) (u.2 1) (ad 12) (ad 13) (ad 14)), ((ad 12), arE ty 40 (u.1 10)), ((ad 13), arE ty 40 (u.1 11)), ((ad 14), arE ty 40 (u.1 12)), ((ad 15), roE (f_X3_dropPassed_h_cn (u.2 2) (u.1 13) (((u.1 0) 1) + (f_fdiv ((u.1 0) 0) 100))) (ad 16) (ad 17) (ad 18)), ((ad 16), arE ty 12 (f_X3_dropPassed_s0 (u.2 2) (u.1 13) (((u.1 0) 1) + (f_fdiv ((u.1 0) 0) 100)))), ((ad 17), arE ty 12 (f_X3_dropPassed_l0 (u.2 2) (u.1 13) (u.1 14) (((u.1 0) 1) + (f_fdiv ((u.1 0) 0) 100)))), ((ad 18), arE ty 12 (f_X3_dropPassed_r0 (u.2 2) (u.1 13) (u.1 15) (((u.1 0) 1) + (f_fdiv ((u.1 0) 0) 100)))), ((ad 19), scE (f_X4_takeDemand_h_pn (u.2 3) (u.1 16) (((u.1 0) 2) + 1)) (ad 20) (ad 21)), ((ad 20), arE ty 10 (f_X4_takeDemand_t (u.2 3) (u.1 16) (((u.1 0) 2) + 1))), ((ad 21), arE ty 10 (f_X4_takeDemand_d (u.2 3) (u.1 16) (u.1 17) (((u.1 0) 2) + 1)))]) C hK hA X (c_X3_dropPassed l D ty (ad 15) (ad 16) (ad 17) (ad 18) (u.2 2) (u.1 13) (u.1 14) (u.1 15) (((u.1 0) 1) + (f_fdiv ((u.1 0) 0) 100)) hO.2.2.2.2.2.1) [15, 16, 17, 18] (pk_c rfl (pk_c rfl (pk_c rfl (pk_c rfl pk_n)))) rfl (pk_c rfl (pk_c rfl (pk_c rfl (pk_c rfl pk_n)))) (em_f (em_f (em_f (em_f (em_f (em_f (em_f (em_f (em_f (em_f (em_f (em_f (em_f (em_f (em_f (em_t (em_t (em_t (em_t (em_f (em_f (em_f em_n)))))))))))))))))))))) rfl ml_X3_dropPassed wm_X0_96 (q0 := 0) rfl rfl rfl ⟨Nat.le_of_ble_eq_true rfl, Nat.le_of_ble_eq_true rfl⟩ ⟨Nat.zero_le _, Nat.zero_le _⟩ hl.1 rfl (Nat.le_of_ble_eq_true rfl) dX0_tick_105 (fun H locs X => ?_)
  refine lv_aload_n hx hb dX0_tick_108 rfl (lv_at hl 2 rfl) ?_
  refine get_ca_0 C hK X 0 rfl fl_X0_12 dX0_tick_109 ?_
  refine lv_aload_n hx hb dX0_tick_112 rfl (lv_at hl 2 rfl) ?_
  refine get_ca_7 C hK X 0 rfl fl_X0_55 dX0_tick_113 ?_
  refine s_eqi (y := (((u.1 0) 2) + 1)) ((pk_un (by decide)).trans ((pk_un (by decide)).trans ((pk_un (by decide)).trans pk_us))) ?_
  refine lv_aload_n hx hb dX0_tick_116 rfl (lv_at hl 2 rfl) ?_
  refine get_ca_8 C hK X 0 rfl fl_X0_58 dX0_tick_117 ?_
  refine s_eqi (y := (f_X4_takeDemand (u.2 3) (u.1 16) (u.1 17) (((u.1 0) 2) + 1) ((u.1 0) 3))) ((pk_un (by decide)).trans ((pk_un (by decide)).trans pk_us)) ?_
  refine s_cVv (ws' := [((ad 0), caE (upd (upd (upd (upd (u.1 0) 2 (((u.1 0) 2) + 1)) 3 (f_X4_takeDemand (u.2 3) (u.1 16) (u.1 17) (((u.1 0) 2) + 1) ((u.1 0) 3))) 1 (((u.1 0) 1) + (f_fdiv ((u.1 0) 0) 100))) 0 (mx (((u.1 0) 0) - (f_fdiv (v_X0_tick_9 u) 40)) 0)) (ad 1) (ad 2) (ad 11) (ad 15) (ad 19)), ((ad 1), ctE (v_X0_tick_10 u) (ad 2) (ad 11)), ((ad 2), waE ty (ad 3) (ad 4) (ad 5) (ad 6)), ((ad 3), whE (v_X0_tick_11 u) (ad 7)), ((ad 4), whE (v_X0_tick_13 u) (ad 8)), ((ad 5), whE (v_X0_tick_15 u) (ad 9)), ((ad 6), whE (v_X0_tick_17 u) (ad 10)), ((ad 7), arE ty 5 (v_X0_tick_19 u)), ((ad 8), arE ty 5 (v_X0_tick_20 u)), ((ad 9), arE ty 5 (v_X0_tick_21 u)), ((ad 10), arE ty 5 (v_X0_tick_22 u)), ((ad 11), loE (v_X0_tick_23 u) (v_X0_tick_24 u) (ad 12) (ad 13) (ad 14)), ((ad 12), arE ty 40 (v_X0_tick_26 u)), ((ad 13), arE ty 40 (v_X0_tick_27 u)), ((ad 14), arE ty 40 (v_X0_tick_28 u)), ((ad 15), roE (f_X3_dropPassed_h_cn (u.2 2) (u.1 13) (((u.1 0) 1) + (f_fdiv ((u.1 0) 0) 100))) (ad 16) (ad 17) (ad 18)), ((ad 16), arE ty 12 (f_X3_dropPassed_s0 (u.2 2) (u.1 13) (((u.1 0) 1) + (f_fdiv ((u.1 0) 0) 100)))), ((ad 17), arE ty 12 (f_X3_dropPassed_l0 (u.2 2) (u.1 13) (u.1 14) (((u.1 0) 1) + (f_fdiv ((u.1 0) 0) 100)))), ((ad 18), arE ty 12 (f_X3_dropPassed_r0 (u.2 2) (u.1 13) (u.1 15) (((u.1 0) 1) + (f_fdiv ((u.1 0) 0) 100)))), ((ad 19), scE (f_X4_takeDemand_h_pn (u.2 3) (u.1 16) (((u.1 0) 2) + 1)) (ad 20) (ad 21)), ((ad 20), arE ty 10 (f_X4_takeDemand_t (u.2 3) (u.1 16) (((u.1 0) 2) + 1))), ((ad 21), arE ty 10 (f_X4_takeDemand_d (u.2 3) (u.1 16) (u.1 17) (((u.1 0) 2) + 1)))]) C hK hA X (c_X1_act l D ty (ad 1) (ad 2) (ad 11) (ad 3) (ad 4) (ad 5) (ad 6) (ad 7) (ad 8) (ad 9) (ad 10) (ad 12) (ad 13) (ad 14) (u.2 0) (u.2 1) (u.1 1) (f_X5_turn_h (v_X0_tick_1 u) (mx (((u.1 0) 0) - (f_fdiv (v_X0_tick_9 u) 40)) 0)) (f_X5_turn_h (v_X0_tick_3 u) (mx (((u.1 0) 0) - (f_fdiv (v_X0_tick_9 u) 40)) 0)) (f_X5_turn_h (v_X0_tick_5 u) (mx (((u.1 0) 0) - (f_fdiv (v_X0_tick_9 u) 40)) 0)) (f_X5_turn_h (v_X0_tick_7 u) (mx (((u.1 0) 0) - (f_fdiv (v_X0_tick_9 u) 40)) 0)) (u.1 6) (u.1 7) (u.1 8) (u.1 9) (u.1 10) (u.1 11) (u.1 12) (((u.1 0) 2) + 1) (f_X4_takeDemand (u.2 3) (u.1 16) (u.1 17) (((u.1 0) 2) + 1) ((u.1 0) 3)) (ok_X5_turn_h (v_X0_tick_1 u) (mx (((u.1 0) 0) - (f_fdiv (v_X0_tick_9 u) 40)) 0) (okm_X0_tick_2 u hO)) (ok_X5_turn_h (v_X0_tick_3 u) (mx (((u.1 0) 0) - (f_fdiv (v_X0_tick_9 u) 40)) 0) (okm_X0_tick_4 u hO)) (ok_X5_turn_h (v_X0_tick_5 u) (mx (((u.1 0) 0) - (f_fdiv (v_X0_tick_9 u) 40)) 0) (okm_X0_tick_6 u hO)) (ok_X5_turn_h (v_X0_tick_7 u) (mx (((u.1 0) 0) - (f_fdiv (v_X0_tick_9 u) 40)) 0) (okm_X0_tick_8 u hO)) hO.2.2.2.2.1) [1, 2, 3, 4, 5, 6, 7, 8, 9, 10, 11, 12, 13, 14] (pk_c rfl (pk_c rfl (pk_c rfl (pk_c rfl (pk_c rfl (pk_c rfl (pk_c rfl (pk_c rfl (pk_c rfl (pk_c rfl (pk_c rfl (pk_c rfl (pk_c rfl (pk_c rfl pk_n)))))))))))))) rfl (pk_c rfl (pk_c rfl (pk_c rfl (pk_c rfl (pk_c rfl (pk_c rfl (pk_c rfl (pk_c rfl (pk_c rfl (pk_c rfl (pk_c rfl (pk_c rfl (pk_c rfl (pk_c rfl pk_n)))))))))))))) (em_f (em_t (em_t (em_t (em_t (em_t (em_t (em_t (em_t (em_t (em_t (em_t (em_t (em_t (em_t (em_f (em_f (em_f (em_f (em_f (em_f (em_f em_n)))))))))))))))))))))) rfl ml_X1_act wm_X0_99 (q0 := 0) rfl rfl rfl ⟨Nat.le_of_ble_eq_true rfl, Nat.le_of_ble_eq_true rfl⟩ ⟨Nat.zero_le _, Nat.zero_le _⟩ hl.1 rfl (Nat.le_of_ble_eq_true rfl) dX0_tick_120 (fun H locs X => ?_)
  refine lv_iconst (v := 0) hx hb dX0_tick_123 (by decide) ?_
  refine lv_istore_n (lv' := [(2, .int 0), (1, .int (v_X0_tick_9 u)), (0, .ref (ad 0))]) hx hb dX0_tick_124 rfl hl (by decide) rfl (fun ls hl => ?_)
  refine lv_iload_n hx hb dX0_tick_125 rfl (lv_at hl 0 rfl) ?_
  refine lv_iconst (v := 4) hx hb dX0_tick_126 (by decide) ?_
  refine lv_icmp_ge (tgt := 149) hx hb dX0_tick_127 (by decide) (fun c0 => absurd c0 (by decide)) (fun _ => ?_)
  refine lv_aload_n hx hb dX0_tick_130 rfl (lv_at hl 2 rfl) ?_
  refine get_ca_1 C hK X 0 rfl fl_X0_22 dX0_tick_131 ?_
  refine lv_iload_n hx hb dX0_tick_134 rfl (lv_at hl 0 rfl) ?_
  refine s_aald (t0 := 2) (b := (ad 3)) C hK X 2 rfl rfl (vp_in_nI (n := 0) (by decide) (by decide)) rfl dX0_tick_135 ?_
  refine lv_aload_n hx hb dX0_tick_136 rfl (lv_at hl 2 rfl) ?_
  refine get_ca_5 C hK X 0 rfl fl_X0_48 dX0_tick_137 ?_
  refine s_eqi (y := (mx (((u.1 0) 0) - (f_fdiv (v_X0_tick_9 u) 40)) 0)) pk_us ?_
  refine s_cVv (ws' := [((ad 0), caE (upd (upd (upd (upd (u.1 0) 2 (((u.1 0) 2) + 1)) 3 (f_X4_takeDemand (u.2 3) (u.1 16) (u.1 17) (((u.1 0) 2) + 1) ((u.1 0) 3))) 1 (((u.1 0) 1) + (f_fdiv ((u.1 0) 0) 100))) 0 (mx (((u.1 0) 0) - (f_fdiv (v_X0_tick_9 u) 40)) 0)) (ad 1) (ad 2) (ad 11) (ad 15) (ad 19)), ((ad 1), ctE (v_X0_tick_10 u) (ad 2) (ad 11)), ((ad 2), waE ty (ad 3) (ad 4) (ad 5) (ad 6)), ((ad 3), whE (f_X5_countLocked_h (v_X0_tick_11 u) (mx (((u.1 0) 0) - (f_fdiv (v_X0_tick_9 u) 40)) 0)) (ad 7)), ((ad 4), whE (v_X0_tick_13 u) (ad 8)), ((ad 5), whE (v_X0_tick_15 u) (ad 9)), ((ad 6), whE (v_X0_tick_17 u) (ad 10)), ((ad 7), arE ty 5 (v_X0_tick_19 u)), ((ad 8), arE ty 5 (v_X0_tick_20 u)), ((ad 9), arE ty 5 (v_X0_tick_21 u)), ((ad 10), arE ty 5 (v_X0_tick_22 u)), ((ad 11), loE (v_X0_tick_23 u) (v_X0_tick_24 u) (ad 12) (ad 13) (ad 14)), ((ad 12), arE ty 40 (v_X0_tick_26 u)), ((ad 13), arE ty 40 (v_X0_tick_27 u)), ((ad 14), arE ty 40 (v_X0_tick_28 u)), ((ad 15), roE (f_X3_dropPassed_h_cn (u.2 2) (u.1 13) (((u.1 0) 1) + (f_fdiv ((u.1 0) 0) 100))) (ad 16) (ad 17) (ad 18)), ((ad 16), arE ty 12 (f_X3_dropPassed_s0 (u.2 2) (u.1 13) (((u.1 0) 1) + (f_fdiv ((u.1 0) 0) 100)))), ((ad 17), arE ty 12 (f_X3_dropPassed_l0 (u.2 2) (u.1 13) (u.1 14) (((u.1 0) 1) + (f_fdiv ((u.1 0) 0) 100)))), ((ad 18), arE ty 12 (f_X3_dropPassed_r0 (u.2 2) (u.1 13) (u.1 15) (((u.1 0) 1) + (f_fdiv ((u.1 0) 0) 100)))), ((ad 19), scE (f_X4_takeDemand_h_pn (u.2 3) (u.1 16) (((u.1 0) 2) + 1)) (ad 20) (ad 21)), ((ad 20), arE ty 10 (f_X4_takeDemand_t (u.2 3) (u.1 16) (((u.1 0) 2) + 1))), ((ad 21), arE ty 10 (f_X4_takeDemand_d (u.2 3) (u.1 16) (u.1 17) (((u.1 0) 2) + 1)))]) C hK hA X (c_X5_countLocked l D ty (ad 3) (ad 7) (v_X0_tick_11 u) (mx (((u.1 0) 0) - (f_fdiv (v_X0_tick_9 u) 40)) 0)) [3] (pk_c rfl pk_n) rfl (pk_c rfl pk_n) (em_f (em_f (em_f (em_t (em_f (em_f (em_f (em_f (em_f (em_f (em_f (em_f (em_f (em_f (em_f (em_f (em_f (em_f (em_f (em_f (em_f (em_f em_n)))))))))))))))))))))) rfl ml_X5_countLocked wm_X0_103 (q0 := 0) rfl rfl rfl ⟨Nat.le_of_ble_eq_true rfl, Nat.le_of_ble_eq_true rfl⟩ ⟨Nat.zero_le _, Nat.zero_le _⟩ hl.1 rfl (Nat.le_of_ble_eq_true rfl) dX0_tick_140 (fun H locs X => ?_)
  refine lv_iinc (v := 1) (lv' := [(2, .int 1), (1, .int (v_X0_tick_9 u)), (0, .ref (ad 0))]) hx hb dX0_tick_143 hl (k := 0) rfl (by decide) (by decide) rfl (fun ls hl => ?_)
  refine lv_goto (tgt := 125) hx hb dX0_tick_146 (by decide) ?_
  refine lv_iload_n hx hb dX0_tick_125 rfl (lv_at hl 0 rfl) ?_
  refine lv_iconst (v := 4) hx hb dX0_tick_126 (by decide) ?_
  refine lv_icmp_ge (tgt := 149) hx hb dX0_tick_127 (by decide) (fun c0 => absurd c0 (by decide)) (fun _ => ?_)
  refine lv_aload_n hx hb dX0_tick_130 rfl (lv_at hl 2 rfl) ?_
  refine get_ca_1 C hK X 0 rfl fl_X0_22 dX0_tick_131 ?_
  refine lv_iload_n hx hb dX0_tick_134 rfl (lv_at hl 0 rfl) ?_
  refine s_aald (t0 := 2) (b := (ad 4)) C hK X 2 rfl rfl (vp_in_nI (n := 1) (by decide) (by decide)) rfl dX0_tick_135 ?_
  refine lv_aload_n hx hb dX0_tick_136 rfl (lv_at hl 2 rfl) ?_
  refine get_ca_5 C hK X 0 rfl fl_X0_48 dX0_tick_137 ?_
  refine s_eqi (y := (mx (((u.1 0) 0) - (f_fdiv (v_X0_tick_9 u) 40)) 0)) pk_us ?_
  refine s_cVv (ws' := [((ad 0), caE (upd (upd (upd (upd (u.1 0) 2 (((u.1 0) 2) + 1)) 3 (f_X4_takeDemand (u.2 3) (u.1 16) (u.1 17) (((u.1 0) 2) + 1) ((u.1 0) 3))) 1 (((u.1 0) 1) + (f_fdiv ((u.1 0) 0) 100))) 0 (mx (((u.1 0) 0) - (f_fdiv (v_X0_tick_9 u) 40)) 0)) (ad 1) (ad 2) (ad 11) (ad 15) (ad 19)), ((ad 1), ctE (v_X0_tick_10 u) (ad 2) (ad 11)), ((ad 2), waE ty (ad 3) (ad 4) (ad 5) (ad 6)), ((ad 3), whE (f_X5_countLocked_h (v_X0_tick_11 u) (mx (((u.1 0) 0) - (f_fdiv (v_X0_tick_9 u) 40)) 0)) (ad 7)), ((ad 4), whE (f_X5_countLocked_h (v_X0_tick_13 u) (mx (((u.1 0) 0) - (f_fdiv (v_X0_tick_9 u) 40)) 0)) (ad 8)), ((ad 5), whE (v_X0_tick_15 u) (ad 9)), ((ad 6), whE (v_X0_tick_17 u) (ad 10)), ((ad 7), arE ty 5 (v_X0_tick_19 u)), ((ad 8), arE ty 5 (v_X0_tick_20 u)), ((ad 9), arE ty 5 (v_X0_tick_21 u)), ((ad 10), arE ty 5 (v_X0_tick_22 u)), ((ad 11), loE (v_X0_tick_23 u) (v_X0_tick_24 u) (ad 12) (ad 13) (ad 14)), ((ad 12), arE ty 40 (v_X0_tick_26 u)), ((ad 13), arE ty 40 (v_X0_tick_27 u)), ((ad 14), arE ty 40 (v_X0_tick_28 u)), ((ad 15), roE (f_X3_dropPassed_h_cn (u.2 2) (u.1 13) (((u.1 0) 1) + (f_fdiv ((u.1 0) 0) 100))) (ad 16) (ad 17) (ad 18)), ((ad 16), arE ty 12 (f_X3_dropPassed_s0 (u.2 2) (u.1 13) (((u.1 0) 1) + (f_fdiv ((u.1 0) 0) 100)))), ((ad 17), arE ty 12 (f_X3_dropPassed_l0 (u.2 2) (u.1 13) (u.1 14) (((u.1 0) 1) + (f_fdiv ((u.1 0) 0) 100)))), ((ad 18), arE ty 12 (f_X3_dropPassed_r0 (u.2 2) (u.1 13) (u.1 15) (((u.1 0) 1) + (f_fdiv ((u.1 0) 0) 100)))), ((ad 19), scE (f_X4_takeDemand_h_pn (u.2 3) (u.1 16) (((u.1 0) 2) + 1)) (ad 20) (ad 21)), ((ad 20), arE ty 10 (f_X4_takeDemand_t (u.2 3) (u.1 16) (((u.1 0) 2) + 1))), ((ad 21), arE ty 10 (f_X4_takeDemand_d (u.2 3) (u.1 16) (u.1 17) (((u.1 0) 2) + 1)))]) C hK hA X (c_X5_countLocked l D ty (ad 4) (ad 8) (v_X0_tick_13 u) (mx (((u.1 0) 0) - (f_fdiv (v_X0_tick_9 u) 40)) 0)) [4] (pk_c rfl pk_n) rfl (pk_c rfl pk_n) (em_f (em_f (em_f (em_f (em_t (em_f (em_f (em_f (em_f (em_f (em_f (em_f (em_f (em_f (em_f (em_f (em_f (em_f (em_f (em_f (em_f (em_f em_n)))))))))))))))))))))) rfl ml_X5_countLocked wm_X0_103 (q0 := 0) rfl rfl rfl ⟨Nat.le_of_ble_eq_true rfl, Nat.le_of_ble_eq_true rfl⟩ ⟨Nat.zero_le _, Nat.zero_le _⟩ hl.1 rfl (Nat.le_of_ble_eq_true rfl) dX0_tick_140 (fun H locs X => ?_)
  refine lv_iinc (v := 2) (lv' := [(2, .int 2), (1, .int (v_X0_tick_9 u)), (0, .ref (ad 0))]) hx hb dX0_tick_143 hl (k := 0) rfl (by decide) (by decide) rfl (fun ls hl => ?_)
  refine lv_goto (tgt := 125) hx hb dX0_tick_146 (by decide) ?_
  refine lv_iload_n hx hb dX0_tick_125 rfl (lv_at hl 0 rfl) ?_
  refine lv_iconst (v := 4) hx hb dX0_tick_126 (by decide) ?_
  refine lv_icmp_ge (tgt := 149) hx hb dX0_tick_127 (by decide) (fun c0 => absurd c0 (by decide)) (fun _ => ?_)
  refine lv_aload_n hx hb dX0_tick_130 rfl (lv_at hl 2 rfl) ?_
  refine get_ca_1 C hK X 0 rfl fl_X0_22 dX0_tick_131 ?_
  refine lv_iload_n hx hb dX0_tick_134 rfl (lv_at hl 0 rfl) ?_
  refine s_aald (t0 := 2) (b := (ad 5)) C hK X 2 rfl rfl (vp_in_nI (n := 2) (by decide) (by decide)) rfl dX0_tick_135 ?_
  refine lv_aload_n hx hb dX0_tick_136 rfl (lv_at hl 2 rfl) ?_
  refine get_ca_5 C hK X 0 rfl fl_X0_48 dX0_tick_137 ?_
  refine s_eqi (y := (mx (((u.1 0) 0) - (f_fdiv (v_X0_tick_9 u) 40)) 0)) pk_us ?_
  refine s_cVv (ws' := [((ad 0), caE (upd (upd (upd (upd (u.1 0) 2 (((u.1 0) 2) + 1)) 3 (f_X4_takeDemand (u.2 3) (u.1 16) (u.1 17) (((u.1 0) 2) + 1) ((u.1 0) 3))) 1 (((u.1 0) 1) + (f_fdiv ((u.1 0) 0) 100))) 0 (mx (((u.1 0) 0) - (f_fdiv (v_X0_tick_9 u) 40)) 0)) (ad 1) (ad 2) (ad 11) (ad 15) (ad 19)), ((ad 1), ctE (v_X0_tick_10 u) (ad 2) (ad 11)), ((ad 2), waE ty (ad 3) (ad 4) (ad 5) (ad 6)), ((ad 3), whE (f_X5_countLocked_h (v_X0_tick_11 u) (mx (((u.1 0) 0) - (f_fdiv (v_X0_tick_9 u) 40)) 0)) (ad 7)), ((ad 4), whE (f_X5_countLocked_h (v_X0_tick_13 u) (mx (((u.1 0) 0) - (f_fdiv (v_X0_tick_9 u) 40)) 0)) (ad 8)), ((ad 5), whE (f_X5_countLocked_h (v_X0_tick_15 u) (mx (((u.1 0) 0) - (f_fdiv (v_X0_tick_9 u) 40)) 0)) (ad 9)), ((ad 6), whE (v_X0_tick_17 u) (ad 10)), ((ad 7), arE ty 5 (v_X0_tick_19 u)), ((ad 8), arE ty 5 (v_X0_tick_20 u)), ((ad 9), arE ty 5 (v_X0_tick_21 u)), ((ad 10), arE ty 5 (v_X0_tick_22 u)), ((ad 11), loE (v_X0_tick_23 u) (v_X0_tick_24 u) (ad 12) (ad 13) (ad 14)), ((ad 12), arE ty 40 (v_X0_tick_26 u)), ((ad 13), arE ty 40 (v_X0_tick_27 u)), ((ad 14), arE ty 40 (v_X0_tick_28 u)), ((ad 15), roE (f_X3_dropPassed_h_cn (u.2 2) (u.1 13) (((u.1 0) 1) + (f_fdiv ((u.1 0) 0) 100))) (ad 16) (ad 17) (ad 18)), ((ad 16), arE ty 12 (f_X3_dropPassed_s0 (u.2 2) (u.1 13) (((u.1 0) 1) + (f_fdiv ((u.1 0) 0) 100)))), ((ad 17), arE ty 12 (f_X3_dropPassed_l0 (u.2 2) (u.1 13) (u.1 14) (((u.1 0) 1) + (f_fdiv ((u.1 0) 0) 100)))), ((ad 18), arE ty 12 (f_X3_dropPassed_r0 (u.2 2) (u.1 13) (u.1 15) (((u.1 0) 1) + (f_fdiv ((u.1 0) 0) 100)))), ((ad 19), scE (f_X4_takeDemand_h_pn (u.2 3) (u.1 16) (((u.1 0) 2) + 1)) (ad 20) (ad 21)), ((ad 20), arE ty 10 (f_X4_takeDemand_t (u.2 3) (u.1 16) (((u.1 0) 2) + 1))), ((ad 21), arE ty 10 (f_X4_takeDemand_d (u.2 3) (u.1 16) (u.1 17) (((u.1 0) 2) + 1)))]) C hK hA X (c_X5_countLocked l D ty (ad 5) (ad 9) (v_X0_tick_15 u) (mx (((u.1 0) 0) - (f_fdiv (v_X0_tick_9 u) 40)) 0)) [5] (pk_c rfl pk_n) rfl (pk_c rfl pk_n) (em_f (em_f (em_f (em_f (em_f (em_t (em_f (em_f (em_f (em_f (em_f (em_f (em_f (em_f (em_f (em_f (em_f (em_f (em_f (em_f (em_f (em_f em_n)))))))))))))))))))))) rfl ml_X5_countLocked wm_X0_103 (q0 := 0) rfl rfl rfl ⟨Nat.le_of_ble_eq_true rfl, Nat.le_of_ble_eq_true rfl⟩ ⟨Nat.zero_le _, Nat.zero_le _⟩ hl.1 rfl (Nat.le_of_ble_eq_true rfl) dX0_tick_140 (fun H locs X => ?_)
  refine lv_iinc (v := 3) (lv' := [(2, .int 3), (1, .int (v_X0_tick_9 u)), (0, .ref (ad 0))]) hx hb dX0_tick_143 hl (k := 0) rfl (by decide) (by decide) rfl (fun ls hl => ?_)
  refine lv_goto (tgt := 125) hx hb dX0_tick_146 (by decide) ?_
  refine lv_iload_n hx hb dX0_tick_125 rfl (lv_at hl 0 rfl) ?_
  refine lv_iconst (v := 4) hx hb dX0_tick_126 (by decide) ?_
  refine lv_icmp_ge (tgt := 149) hx hb dX0_tick_127 (by decide) (fun c0 => absurd c0 (by decide)) (fun _ => ?_)
  refine lv_aload_n hx hb dX0_tick_130 rfl (lv_at hl 2 rfl) ?_
  refine get_ca_1 C hK X 0 rfl fl_X0_22 dX0_tick_131 ?_
  refine lv_iload_n hx hb dX0_tick_134 rfl (lv_at hl 0 rfl) ?_
  refine s_aald (t0 := 2) (b := (ad 6)) C hK X 2 rfl rfl (vp_in_nI (n := 3) (by decide) (by decide)) rfl dX0_tick_135 ?_
  refine lv_aload_n hx hb dX0_tick_136 rfl (lv_at hl 2 rfl) ?_
  refine get_ca_5 C hK X 0 rfl fl_X0_48 dX0_tick_137 ?_
  refine s_eqi (y := (mx (((u.1 0) 0) - (f_fdiv (v_X0_tick_9 u) 40)) 0)) pk_us ?_
  refine s_cVv (ws' := [((ad 0), caE (upd (upd (upd (upd (u.1 0) 2 (((u.1 0) 2) + 1)) 3 (f_X4_takeDemand (u.2 3) (u.1 16) (u.1 17) (((u.1 0) 2) + 1) ((u.1 0) 3))) 1 (((u.1 0) 1) + (f_fdiv ((u.1 0) 0) 100))) 0 (mx (((u.1 0) 0) - (f_fdiv (v_X0_tick_9 u) 40)) 0)) (ad 1) (ad 2) (ad 11) (ad 15) (ad 19)), ((ad 1), ctE (v_X0_tick_10 u) (ad 2) (ad 11)), ((ad 2), waE ty (ad 3) (ad 4) (ad 5) (ad 6)), ((ad 3), whE (f_X5_countLocked_h (v_X0_tick_11 u) (mx (((u.1 0) 0) - (f_fdiv (v_X0_tick_9 u) 40)) 0)) (ad 7)), ((ad 4), whE (f_X5_countLocked_h (v_X0_tick_13 u) (mx (((u.1 0) 0) - (f_fdiv (v_X0_tick_9 u) 40)) 0)) (ad 8)), ((ad 5), whE (f_X5_countLocked_h (v_X0_tick_15 u) (mx (((u.1 0) 0) - (f_fdiv (v_X0_tick_9 u) 40)) 0)) (ad 9)), ((ad 6), whE (f_X5_countLocked_h (v_X0_tick_17 u) (mx (((u.1 0) 0) - (f_fdiv (v_X0_tick_9 u) 40)) 0)) (ad 10)), ((ad 7), arE ty 5 (v_X0_tick_19 u)), ((ad 8), arE ty 5 (v_X0_tick_20 u)), ((ad 9), arE ty 5 (v_X0_tick_21 u)), ((ad 10), arE ty 5 (v_X0_tick_22 u)), ((ad 11), loE (v_X0_tick_23 u) (v_X0_tick_24 u) (ad 12) (ad 13) (ad 14)), ((ad 12), arE ty 40 (v_X0_tick_26 u)), ((ad 13), arE ty 40 (v_X0_tick_27 u)), ((ad 14), arE ty 40 (v_X0_tick_28 u)), ((ad 15), roE (f_X3_dropPassed_h_cn (u.2 2) (u.1 13) (((u.1 0) 1) + (f_fdiv ((u.1 0) 0) 100))) (ad 16) (ad 17) (ad 18)), ((ad 16), arE ty 12 (f_X3_dropPassed_s0 (u.2 2) (u.1 13) (((u.1 0) 1) + (f_fdiv ((u.1 0) 0) 100)))), ((ad 17), arE ty 12 (f_X3_dropPassed_l0 (u.2 2) (u.1 13) (u.1 14) (((u.1 0) 1) + (f_fdiv ((u.1 0) 0) 100)))), ((ad 18), arE ty 12 (f_X3_dropPassed_r0 (u.2 2) (u.1 13) (u.1 15) (((u.1 0) 1) + (f_fdiv ((u.1 0) 0) 100)))), ((ad 19), scE (f_X4_takeDemand_h_pn (u.2 3) (u.1 16) (((u.1 0) 2) + 1)) (ad 20) (ad 21)), ((ad 20), arE ty 10 (f_X4_takeDemand_t (u.2 3) (u.1 16) (((u.1 0) 2) + 1))), ((ad 21), arE ty 10 (f_X4_takeDemand_d (u.2 3) (u.1 16) (u.1 17) (((u.1 0) 2) + 1)))]) C hK hA X (c_X5_countLocked l D ty (ad 6) (ad 10) (v_X0_tick_17 u) (mx (((u.1 0) 0) - (f_fdiv (v_X0_tick_9 u) 40)) 0)) [6] (pk_c rfl pk_n) rfl (pk_c rfl pk_n) (em_f (em_f (em_f (em_f (em_f (em_f (em_t (em_f (em_f (em_f (em_f (em_f (em_f (em_f (em_f (em_f (em_f (em_f (em_f (em_f (em_f (em_f em_n)))))))))))))))))))))) rfl ml_X5_countLocked wm_X0_103 (q0 := 0) rfl rfl rfl ⟨Nat.le_of_ble_eq_true rfl, Nat.le_of_ble_eq_true rfl⟩ ⟨Nat.zero_le _, Nat.zero_le _⟩ hl.1 rfl (Nat.le_of_ble_eq_true rfl) dX0_tick_140 (fun H locs X => ?_)
  refine lv_iinc (v := 4) (lv' := [(2, .int 4), (1, .int (v_X0_tick_9 u)), (0, .ref (ad 0))]) hx hb dX0_tick_143 hl (k := 0) rfl (by decide) (by decide) rfl (fun ls hl => ?_)
  refine lv_goto (tgt := 125) hx hb dX0_tick_146 (by decide) ?_
  refine lv_iload_n hx hb dX0_tick_125 rfl (lv_at hl 0 rfl) ?_
  refine lv_iconst (v := 4) hx hb dX0_tick_126 (by decide) ?_
  refine lv_icmp_ge (tgt := 149) hx hb dX0_tick_127 (by decide) (fun _ => ?_) (fun c0 => absurd (by decide) c0)
  have e_0_0 : (f_X0_tick_ad0 u) = (upd (upd (upd (upd (u.1 0) 2 (((u.1 0) 2) + 1)) 3 (f_X4_takeDemand (u.2 3) (u.1 16) (u.1 17) (((u.1 0) 2) + 1) ((u.1 0) 3))) 1 (((u.1 0) 1) + (f_fdiv ((u.1 0) 0) 100))) 0 (mx (((u.1 0) 0) - (f_fdiv (v_X0_tick_9 u) 40)) 0)) := by first | (rw [f_X0_tick_ad0]; done) | (rw [f_X0_tick_ad0]; rfl) | (simp only [f_X0_tick_ad0]; done)
  have e_3_0 : (f_X0_tick_ad3 u) = (f_X5_countLocked_h (v_X0_tick_11 u) (mx (((u.1 0) 0) - (f_fdiv (v_X0_tick_9 u) 40)) 0)) := by first | (rw [f_X0_tick_ad3]; done) | (rw [f_X0_tick_ad3]; rfl) | (simp only [f_X0_tick_ad3]; done)
  have e_4_0 : (f_X0_tick_ad4 u) = (f_X5_countLocked_h (v_X0_tick_13 u) (mx (((u.1 0) 0) - (f_fdiv (v_X0_tick_9 u) 40)) 0)) := by first | (rw [f_X0_tick_ad4]; done) | (rw [f_X0_tick_ad4]; rfl) | (simp only [f_X0_tick_ad4]; done)
  have e_5_0 : (f_X0_tick_ad5 u) = (f_X5_countLocked_h (v_X0_tick_15 u) (mx (((u.1 0) 0) - (f_fdiv (v_X0_tick_9 u) 40)) 0)) := by first | (rw [f_X0_tick_ad5]; done) | (rw [f_X0_tick_ad5]; rfl) | (simp only [f_X0_tick_ad5]; done)
  have e_6_0 : (f_X0_tick_ad6 u) = (f_X5_countLocked_h (v_X0_tick_17 u) (mx (((u.1 0) 0) - (f_fdiv (v_X0_tick_9 u) 40)) 0)) := by first | (rw [f_X0_tick_ad6]; done) | (rw [f_X0_tick_ad6]; rfl) | (simp only [f_X0_tick_ad6]; done)
  have e_15_0 : (f_X0_tick_ad15_cn u) = (f_X3_dropPassed_h_cn (u.2 2) (u.1 13) (((u.1 0) 1) + (f_fdiv ((u.1 0) 0) 100))) := by first | (rw [f_X0_tick_ad15_cn]; done) | (rw [f_X0_tick_ad15_cn]; rfl) | (simp only [f_X0_tick_ad15_cn]; done)
  have e_16_1 : (f_X0_tick_ad16 u) = (f_X3_dropPassed_s0 (u.2 2) (u.1 13) (((u.1 0) 1) + (f_fdiv ((u.1 0) 0) 100))) := by first | (rw [f_X0_tick_ad16]; done) | (rw [f_X0_tick_ad16]; rfl) | (simp only [f_X0_tick_ad16]; done)
  have e_17_1 : (f_X0_tick_ad17 u) = (f_X3_dropPassed_l0 (u.2 2) (u.1 13) (u.1 14) (((u.1 0) 1) + (f_fdiv ((u.1 0) 0) 100))) := by first | (rw [f_X0_tick_ad17]; done) | (rw [f_X0_tick_ad17]; rfl) | (simp only [f_X0_tick_ad17]; done)
  have e_18_1 : (f_X0_tick_ad18 u) = (f_X3_dropPassed_r0 (u.2 2) (u.1 13) (u.1 15) (((u.1 0) 1) + (f_fdiv ((u.1 0) 0) 100))) := by first | (rw [f_X0_tick_ad18]; done) | (rw [f_X0_tick_ad18]; rfl) | (simp only [f_X0_tick_ad18]; done)
  have e_19_0 : (f_X0_tick_ad19_pn u) = (f_X4_takeDemand_h_pn (u.2 3) (u.1 16) (((u.1 0) 2) + 1)) := by first | (rw [f_X0_tick_ad19_pn]; done) | (rw [f_X0_tick_ad19_pn]; rfl) | (simp only [f_X0_tick_ad19_pn]; done)
  have e_20_1 : (f_X0_tick_ad20 u) = (f_X4_takeDemand_t (u.2 3) (u.1 16) (((u.1 0) 2) + 1)) := by first | (rw [f_X0_tick_ad20]; done) | (rw [f_X0_tick_ad20]; rfl) | (simp only [f_X0_tick_ad20]; done)
  have e_21_1 : (f_X0_tick_ad21 u) = (f_X4_takeDemand_d (u.2 3) (u.1 16) (u.1 17) (((u.1 0) 2) + 1)) := by first | (rw [f_X0_tick_ad21]; done) | (rw [f_X0_tick_ad21]; rfl) | (simp only [f_X0_tick_ad21]; done)
  exact hret _ _ _ _ _ dX0_tick_149 X (by rw [e_0_0, e_3_0, e_4_0, e_5_0, e_6_0, e_15_0, e_16_1, e_17_1, e_18_1, e_19_0, e_20_1, e_21_1])
def b_X0_tick_u_r (u : CarS) : Nat → F1
  | 0 => (f_X0_tick_ad0 u)
  | 1 => (v_X0_tick_10 u)
  | 2 => (f_X0_tick_ad3 u)
  | 3 => (f_X0_tick_ad4 u)
  | 4 => (f_X0_tick_ad5 u)
  | 5 => (f_X0_tick_ad6 u)
  | 6 => (v_X0_tick_19 u)
  | 7 => (v_X0_tick_20 u)
  | 8 => (v_X0_tick_21 u)
  | 9 => (v_X0_tick_22 u)
  | 10 => (v_X0_tick_26 u)
  | 11 => (v_X0_tick_27 u)
  | 12 => (v_X0_tick_28 u)
  | 13 => (f_X0_tick_ad16 u)
  | 14 => (f_X0_tick_ad17 u)
  | 15 => (f_X0_tick_ad18 u)
  | 16 => (f_X0_tick_ad20 u)
  | 17 => (f_X0_tick_ad21 u)
  | j => u.1 j
def b_X0_tick_u_n (u : CarS) : Nat → Nat
  | 0 => (v_X0_tick_23 u)
  | 1 => (v_X0_tick_24 u)
  | 2 => (f_X0_tick_ad15_cn u)
  | 3 => (f_X0_tick_ad19_pn u)
  | j => u.2 j
def b_X0_tick_u (u : CarS) : CarS := (b_X0_tick_u_r u, b_X0_tick_u_n u)
theorem b_X0_tick_u_f1 (u : CarS) : (b_X0_tick_u u).1 = b_X0_tick_u_r u := rfl
theorem b_X0_tick_u_f2 (u : CarS) : (b_X0_tick_u u).2 = b_X0_tick_u_n u := rfl
theorem b_X0_tick_u_r0 (u : CarS) : (b_X0_tick_u u).1 0 = (f_X0_tick_ad0 u) := by rw [b_X0_tick_u_f1, b_X0_tick_u_r]
theorem b_X0_tick_u_r1 (u : CarS) : (b_X0_tick_u u).1 1 = (v_X0_tick_10 u) := by rw [b_X0_tick_u_f1, b_X0_tick_u_r]
theorem b_X0_tick_u_r2 (u : CarS) : (b_X0_tick_u u).1 2 = (f_X0_tick_ad3 u) := by rw [b_X0_tick_u_f1, b_X0_tick_u_r]
theorem b_X0_tick_u_r3 (u : CarS) : (b_X0_tick_u u).1 3 = (f_X0_tick_ad4 u) := by rw [b_X0_tick_u_f1, b_X0_tick_u_r]
theorem b_X0_tick_u_r4 (u : CarS) : (b_X0_tick_u u).1 4 = (f_X0_tick_ad5 u) := by rw [b_X0_tick_u_f1, b_X0_tick_u_r]
theorem b_X0_tick_u_r5 (u : CarS) : (b_X0_tick_u u).1 5 = (f_X0_tick_ad6 u) := by rw [b_X0_tick_u_f1, b_X0_tick_u_r]
theorem b_X0_tick_u_r6 (u : CarS) : (b_X0_tick_u u).1 6 = (v_X0_tick_19 u) := by rw [b_X0_tick_u_f1, b_X0_tick_u_r]
theorem b_X0_tick_u_r7 (u : CarS) : (b_X0_tick_u u).1 7 = (v_X0_tick_20 u) := by rw [b_X0_tick_u_f1, b_X0_tick_u_r]
theorem b_X0_tick_u_r8 (u : CarS) : (b_X0_tick_u u).1 8 = (v_X0_tick_21 u) := by rw [b_X0_tick_u_f1, b_X0_tick_u_r]
theorem b_X0_tick_u_r9 (u : CarS) : (b_X0_tick_u u).1 9 = (v_X0_tick_22 u) := by rw [b_X0_tick_u_f1, b_X0_tick_u_r]
theorem b_X0_tick_u_r10 (u : CarS) : (b_X0_tick_u u).1 10 = (v_X0_tick_26 u) := by rw [b_X0_tick_u_f1, b_X0_tick_u_r]
theorem b_X0_tick_u_r11 (u : CarS) : (b_X0_tick_u u).1 11 = (v_X0_tick_27 u) := by rw [b_X0_tick_u_f1, b_X0_tick_u_r]
theorem b_X0_tick_u_r12 (u : CarS) : (b_X0_tick_u u).1 12 = (v_X0_tick_28 u) := by rw [b_X0_tick_u_f1, b_X0_tick_u_r]
theorem b_X0_tick_u_r13 (u : CarS) : (b_X0_tick_u u).1 13 = (f_X0_tick_ad16 u) := by rw [b_X0_tick_u_f1, b_X0_tick_u_r]
theorem b_X0_tick_u_r14 (u : CarS) : (b_X0_tick_u u).1 14 = (f_X0_tick_ad17 u) := by rw [b_X0_tick_u_f1, b_X0_tick_u_r]
theorem b_X0_tick_u_r15 (u : CarS) : (b_X0_tick_u u).1 15 = (f_X0_tick_ad18 u) := by rw [b_X0_tick_u_f1, b_X0_tick_u_r]
theorem b_X0_tick_u_r16 (u : CarS) : (b_X0_tick_u u).1 16 = (f_X0_tick_ad20 u) := by rw [b_X0_tick_u_f1, b_X0_tick_u_r]
theorem b_X0_tick_u_r17 (u : CarS) : (b_X0_tick_u u).1 17 = (f_X0_tick_ad21 u) := by rw [b_X0_tick_u_f1, b_X0_tick_u_r]
theorem b_X0_tick_u_n0 (u : CarS) : (b_X0_tick_u u).2 0 = (v_X0_tick_23 u) := by rw [b_X0_tick_u_f2, b_X0_tick_u_n]
theorem b_X0_tick_u_n1 (u : CarS) : (b_X0_tick_u u).2 1 = (v_X0_tick_24 u) := by rw [b_X0_tick_u_f2, b_X0_tick_u_n]
theorem b_X0_tick_u_n2 (u : CarS) : (b_X0_tick_u u).2 2 = (f_X0_tick_ad15_cn u) := by rw [b_X0_tick_u_f2, b_X0_tick_u_n]
theorem b_X0_tick_u_n3 (u : CarS) : (b_X0_tick_u u).2 3 = (f_X0_tick_ad19_pn u) := by rw [b_X0_tick_u_f2, b_X0_tick_u_n]
theorem okC_X0_tick_u (ad : Nat → Nat) (u : CarS) (hO : CarOK u) : CarOK (b_X0_tick_u u) := by
  unfold CarOK
  rw [b_X0_tick_u_r2, b_X0_tick_u_r3, b_X0_tick_u_r4, b_X0_tick_u_r5, b_X0_tick_u_n0, b_X0_tick_u_n1, b_X0_tick_u_n2, b_X0_tick_u_n3]
  exact ⟨ok_X0_tick_ad3 u hO, ok_X0_tick_ad4 u hO, ok_X0_tick_ad5 u hO, ok_X0_tick_ad6 u hO, ok_X0_tick_ad11 u hO, ok_X0_tick_ad15 u hO, ok_X0_tick_ad19 u hO⟩
set_option maxHeartbeats 4000000 in
set_option maxRecDepth 100000 in
theorem c_X0_tickB (l : Launch) (D : va_G) (ty : Nat → ClassId) (ad : Nat → Nat) (u : CarS) (hO : CarOK u) : MC l D ty yX0_tick cX0_tick 3 none 5 [.ref (ad 0)] [((ad 0), caE (u.1 0) (ad 1) (ad 2) (ad 11) (ad 15) (ad 19)), ((ad 1), ctE (u.1 1) (ad 2) (ad 11)), ((ad 2), waE ty (ad 3) (ad 4) (ad 5) (ad 6)), ((ad 3), whE (u.1 2) (ad 7)), ((ad 4), whE (u.1 3) (ad 8)), ((ad 5), whE (u.1 4) (ad 9)), ((ad 6), whE (u.1 5) (ad 10)), ((ad 7), arE ty 5 (u.1 6)), ((ad 8), arE ty 5 (u.1 7)), ((ad 9), arE ty 5 (u.1 8)), ((ad 10), arE ty 5 (u.1 9)), ((ad 11), loE (u.2 0) (u.2 1) (ad 12) (ad 13) (ad 14)), ((ad 12), arE ty 40 (u.1 10)), ((ad 13), arE ty 40 (u.1 11)), ((ad 14), arE ty 40 (u.1 12)), ((ad 15), roE (u.2 2) (ad 16) (ad 17) (ad 18)), ((ad 16), arE ty 12 (u.1 13)), ((ad 17), arE ty 12 (u.1 14)), ((ad 18), arE ty 12 (u.1 15)), ((ad 19), scE (u.2 3) (ad 20) (ad 21)), ((ad 20), arE ty 10 (u.1 16)), ((ad 21), arE ty 10 (u.1 17))] none [((ad 0), caE ((b_X0_tick_u u).1 0) (ad 1) (ad 2) (ad 11) (ad 15) (ad 19)), ((ad 1), ctE ((b_X0_tick_u u).1 1) (ad 2) (ad 11)), ((ad 2), waE ty (ad 3) (ad 4) (ad 5) (ad 6)), ((ad 3), whE ((b_X0_tick_u u).1 2) (ad 7)), ((ad 4), whE ((b_X0_tick_u u).1 3) (ad 8)), ((ad 5), whE ((b_X0_tick_u u).1 4) (ad 9)), ((ad 6), whE ((b_X0_tick_u u).1 5) (ad 10)), ((ad 7), arE ty 5 ((b_X0_tick_u u).1 6)), ((ad 8), arE ty 5 ((b_X0_tick_u u).1 7)), ((ad 9), arE ty 5 ((b_X0_tick_u u).1 8)), ((ad 10), arE ty 5 ((b_X0_tick_u u).1 9)), ((ad 11), loE ((b_X0_tick_u u).2 0) ((b_X0_tick_u u).2 1) (ad 12) (ad 13) (ad 14)), ((ad 12), arE ty 40 ((b_X0_tick_u u).1 10)), ((ad 13), arE ty 40 ((b_X0_tick_u u).1 11)), ((ad 14), arE ty 40 ((b_X0_tick_u u).1 12)), ((ad 15), roE ((b_X0_tick_u u).2 2) (ad 16) (ad 17) (ad 18)), ((ad 16), arE ty 12 ((b_X0_tick_u u).1 13)), ((ad 17), arE ty 12 ((b_X0_tick_u u).1 14)), ((ad 18), arE ty 12 ((b_X0_tick_u u).1 15)), ((ad 19), scE ((b_X0_tick_u u).2 3) (ad 20) (ad 21)), ((ad 20), arE ty 10 ((b_X0_tick_u u).1 16)), ((ad 21), arE ty 10 ((b_X0_tick_u u).1 17))] := by
  simp only [b_X0_tick_u_r0, b_X0_tick_u_r1, b_X0_tick_u_r2, b_X0_tick_u_r3, b_X0_tick_u_r4, b_X0_tick_u_r5, b_X0_tick_u_r6, b_X0_tick_u_r7, b_X0_tick_u_r8, b_X0_tick_u_r9, b_X0_tick_u_r10, b_X0_tick_u_r11, b_X0_tick_u_r12, b_X0_tick_u_r13, b_X0_tick_u_r14, b_X0_tick_u_r15, b_X0_tick_u_r16, b_X0_tick_u_r17, b_X0_tick_u_n0, b_X0_tick_u_n1, b_X0_tick_u_n2, b_X0_tick_u_n3]
  exact c_X0_tick l D ty ad u hO
def tickN (u : CarS) : Nat → CarS
  | 0 => u
  | i + 1 => b_X0_tick_u (tickN u i)
theorem tickN_ok (ad : Nat → Nat) {u : CarS} (h : CarOK u) : ∀ i, CarOK (tickN u i)
  | 0 => h
  | i + 1 => okC_X0_tick_u ad (tickN u i) (tickN_ok ad h i)
def tkP (u : CarS) : Nat → Bool := fun i => decide (¬ ((tickN u i).1 0 0) ≤ 0)
/-- how many ticks until it stands still, at most 5000 -/
def tkN (u : CarS) : Nat := scanB (tkP u) 5000 0
def f_X0_tickUntilStill_ad0 (u : CarS) : F1 := ((tickN u (tkN u)).1 0)
def f_X0_tickUntilStill_ad1 (u : CarS) : F1 := ((tickN u (tkN u)).1 1)
def f_X0_tickUntilStill_ad3 (u : CarS) : F1 := ((tickN u (tkN u)).1 2)
def f_X0_tickUntilStill_ad4 (u : CarS) : F1 := ((tickN u (tkN u)).1 3)
def f_X0_tickUntilStill_ad5 (u : CarS) : F1 := ((tickN u (tkN u)).1 4)
def f_X0_tickUntilStill_ad6 (u : CarS) : F1 := ((tickN u (tkN u)).1 5)
def f_X0_tickUntilStill_ad7 (u : CarS) : F1 := ((tickN u (tkN u)).1 6)
def f_X0_tickUntilStill_ad8 (u : CarS) : F1 := ((tickN u (tkN u)).1 7)
def f_X0_tickUntilStill_ad9 (u : CarS) : F1 := ((tickN u (tkN u)).1 8)
def f_X0_tickUntilStill_ad10 (u : CarS) : F1 := ((tickN u (tkN u)).1 9)
def f_X0_tickUntilStill_ad11_fi (u : CarS) : Nat := ((tickN u (tkN u)).2 0)
def f_X0_tickUntilStill_ad11_lc (u : CarS) : Nat := ((tickN u (tkN u)).2 1)
def f_X0_tickUntilStill_ad12 (u : CarS) : F1 := ((tickN u (tkN u)).1 10)
def f_X0_tickUntilStill_ad13 (u : CarS) : F1 := ((tickN u (tkN u)).1 11)
def f_X0_tickUntilStill_ad14 (u : CarS) : F1 := ((tickN u (tkN u)).1 12)
def f_X0_tickUntilStill_ad15_cn (u : CarS) : Nat := ((tickN u (tkN u)).2 2)
def f_X0_tickUntilStill_ad16 (u : CarS) : F1 := ((tickN u (tkN u)).1 13)
def f_X0_tickUntilStill_ad17 (u : CarS) : F1 := ((tickN u (tkN u)).1 14)
def f_X0_tickUntilStill_ad18 (u : CarS) : F1 := ((tickN u (tkN u)).1 15)
def f_X0_tickUntilStill_ad19_pn (u : CarS) : Nat := ((tickN u (tkN u)).2 3)
def f_X0_tickUntilStill_ad20 (u : CarS) : F1 := ((tickN u (tkN u)).1 16)
def f_X0_tickUntilStill_ad21 (u : CarS) : F1 := ((tickN u (tkN u)).1 17)
set_option maxHeartbeats 4000000 in
set_option maxRecDepth 100000 in
theorem c_X0_tickUntilStill (l : Launch) (D : va_G) (ty : Nat → ClassId) (ad : Nat → Nat) (u : CarS) (hO : CarOK u) : MC l D ty yX0_tickUntilStill cX0_tickUntilStill 2 (some .int) 6 [.ref (ad 0)] [((ad 0), caE (u.1 0) (ad 1) (ad 2) (ad 11) (ad 15) (ad 19)), ((ad 1), ctE (u.1 1) (ad 2) (ad 11)), ((ad 2), waE ty (ad 3) (ad 4) (ad 5) (ad 6)), ((ad 3), whE (u.1 2) (ad 7)), ((ad 4), whE (u.1 3) (ad 8)), ((ad 5), whE (u.1 4) (ad 9)), ((ad 6), whE (u.1 5) (ad 10)), ((ad 7), arE ty 5 (u.1 6)), ((ad 8), arE ty 5 (u.1 7)), ((ad 9), arE ty 5 (u.1 8)), ((ad 10), arE ty 5 (u.1 9)), ((ad 11), loE (u.2 0) (u.2 1) (ad 12) (ad 13) (ad 14)), ((ad 12), arE ty 40 (u.1 10)), ((ad 13), arE ty 40 (u.1 11)), ((ad 14), arE ty 40 (u.1 12)), ((ad 15), roE (u.2 2) (ad 16) (ad 17) (ad 18)), ((ad 16), arE ty 12 (u.1 13)), ((ad 17), arE ty 12 (u.1 14)), ((ad 18), arE ty 12 (u.1 15)), ((ad 19), scE (u.2 3) (ad 20) (ad 21)), ((ad 20), arE ty 10 (u.1 16)), ((ad 21), arE ty 10 (u.1 17))] (some (.int (nI (tkN u)))) [((ad 0), caE (f_X0_tickUntilStill_ad0 u) (ad 1) (ad 2) (ad 11) (ad 15) (ad 19)), ((ad 1), ctE (f_X0_tickUntilStill_ad1 u) (ad 2) (ad 11)), ((ad 2), waE ty (ad 3) (ad 4) (ad 5) (ad 6)), ((ad 3), whE (f_X0_tickUntilStill_ad3 u) (ad 7)), ((ad 4), whE (f_X0_tickUntilStill_ad4 u) (ad 8)), ((ad 5), whE (f_X0_tickUntilStill_ad5 u) (ad 9)), ((ad 6), whE (f_X0_tickUntilStill_ad6 u) (ad 10)), ((ad 7), arE ty 5 (f_X0_tickUntilStill_ad7 u)), ((ad 8), arE ty 5 (f_X0_tickUntilStill_ad8 u)), ((ad 9), arE ty 5 (f_X0_tickUntilStill_ad9 u)), ((ad 10), arE ty 5 (f_X0_tickUntilStill_ad10 u)), ((ad 11), loE (f_X0_tickUntilStill_ad11_fi u) (f_X0_tickUntilStill_ad11_lc u) (ad 12) (ad 13) (ad 14)), ((ad 12), arE ty 40 (f_X0_tickUntilStill_ad12 u)), ((ad 13), arE ty 40 (f_X0_tickUntilStill_ad13 u)), ((ad 14), arE ty 40 (f_X0_tickUntilStill_ad14 u)), ((ad 15), roE (f_X0_tickUntilStill_ad15_cn u) (ad 16) (ad 17) (ad 18)), ((ad 16), arE ty 12 (f_X0_tickUntilStill_ad16 u)), ((ad 17), arE ty 12 (f_X0_tickUntilStill_ad17 u)), ((ad 18), arE ty 12 (f_X0_tickUntilStill_ad18 u)), ((ad 19), scE (f_X0_tickUntilStill_ad19_pn u) (ad 20) (ad 21)), ((ad 20), arE ty 10 (f_X0_tickUntilStill_ad20 u)), ((ad 21), arE ty 10 (f_X0_tickUntilStill_ad21 u))] := by
  refine mc_i (by decide +kernel) (Nat.le_of_ble_eq_true rfl) ?_
  intro p e s m args below meth c A Q ls C hK hA X hret hl
  have hx := C.1
  have hb := C.2.1
  have hl : lv_has ls 2 [(0, .ref (ad 0))] := hl
  have X : Wd D A s.heap [((ad 0), caE (u.1 0) (ad 1) (ad 2) (ad 11) (ad 15) (ad 19)), ((ad 1), ctE (u.1 1) (ad 2) (ad 11)), ((ad 2), waE ty (ad 3) (ad 4) (ad 5) (ad 6)), ((ad 3), whE (u.1 2) (ad 7)), ((ad 4), whE (u.1 3) (ad 8)), ((ad 5), whE (u.1 4) (ad 9)), ((ad 6), whE (u.1 5) (ad 10)), ((ad 7), arE ty 5 (u.1 6)), ((ad 8), arE ty 5 (u.1 7)), ((ad 9), arE ty 5 (u.1 8)), ((ad 10), arE ty 5 (u.1 9)), ((ad 11), loE (u.2 0) (u.2 1) (ad 12) (ad 13) (ad 14)), ((ad 12), arE ty 40 (u.1 10)), ((ad 13), arE ty 40 (u.1 11)), ((ad 14), arE ty 40 (u.1 12)), ((ad 15), roE (u.2 2) (ad 16) (ad 17) (ad 18)), ((ad 16), arE ty 12 (u.1 13)), ((ad 17), arE ty 12 (u.1 14)), ((ad 18), arE ty 12 (u.1 15)), ((ad 19), scE (u.2 3) (ad 20) (ad 21)), ((ad 20), arE ty 10 (u.1 16)), ((ad 21), arE ty 10 (u.1 17))] s.heap [] := X
  refine lv_iconst (v := 0) hx hb dX0_tickUntilStill_0 (by decide) ?_
  refine lv_istore_n (lv' := [(1, .int 0), (0, .ref (ad 0))]) hx hb dX0_tickUntilStill_1 rfl hl (by decide) rfl (fun ls hl => ?_)
  have K1 : ∀ (y1_0 : Int32) (y1_1 : F1) (y1_2 : F1) (y1_3 : F1) (y1_4 : F1) (y1_5 : F1) (y1_6 : F1) (y1_7 : F1) (y1_8 : F1) (y1_9 : F1) (y1_10 : F1) (y1_11 : Nat) (y1_12 : Nat) (y1_13 : F1) (y1_14 : F1) (y1_15 : F1) (y1_16 : Nat) (y1_17 : F1) (y1_18 : F1) (y1_19 : F1) (y1_20 : Nat) (y1_21 : F1) (y1_22 : F1) (ls : Array Slot) (H : Heap) (locs : List Loc), y1_0 = (nI (tkN u)) → y1_1 = ((tickN u (tkN u)).1 0) → y1_2 = ((tickN u (tkN u)).1 1) → y1_3 = ((tickN u (tkN u)).1 2) → y1_4 = ((tickN u (tkN u)).1 3) → y1_5 = ((tickN u (tkN u)).1 4) → y1_6 = ((tickN u (tkN u)).1 5) → y1_7 = ((tickN u (tkN u)).1 6) → y1_8 = ((tickN u (tkN u)).1 7) → y1_9 = ((tickN u (tkN u)).1 8) → y1_10 = ((tickN u (tkN u)).1 9) → y1_11 = ((tickN u (tkN u)).2 0) → y1_12 = ((tickN u (tkN u)).2 1) → y1_13 = ((tickN u (tkN u)).1 10) → y1_14 = ((tickN u (tkN u)).1 11) → y1_15 = ((tickN u (tkN u)).1 12) → y1_16 = ((tickN u (tkN u)).2 2) → y1_17 = ((tickN u (tkN u)).1 13) → y1_18 = ((tickN u (tkN u)).1 14) → y1_19 = ((tickN u (tkN u)).1 15) → y1_20 = ((tickN u (tkN u)).2 3) → y1_21 = ((tickN u (tkN u)).1 16) → y1_22 = ((tickN u (tkN u)).1 17) → lv_has ls 2 [(1, .int y1_0), (0, .ref (ad 0))] → Wd D A s.heap [((ad 0), caE y1_1 (ad 1) (ad 2) (ad 11) (ad 15) (ad 19)), ((ad 1), ctE y1_2 (ad 2) (ad 11)), ((ad 2), waE ty (ad 3) (ad 4) (ad 5) (ad 6)), ((ad 3), whE y1_3 (ad 7)), ((ad 4), whE y1_4 (ad 8)), ((ad 5), whE y1_5 (ad 9)), ((ad 6), whE y1_6 (ad 10)), ((ad 7), arE ty 5 y1_7), ((ad 8), arE ty 5 y1_8), ((ad 9), arE ty 5 y1_9), ((ad 10), arE ty 5 y1_10), ((ad 11), loE y1_11 y1_12 (ad 12) (ad 13) (ad 14)), ((ad 12), arE ty 40 y1_13), ((ad 13), arE ty 40 y1_14), ((ad 14), arE ty 40 y1_15), ((ad 15), roE y1_16 (ad 16) (ad 17) (ad 18)), ((ad 16), arE ty 12 y1_17), ((ad 17), arE ty 12 y1_18), ((ad 18), arE ty 12 y1_19), ((ad 19), scE y1_20 (ad 20) (ad 21)), ((ad 20), arE ty 10 y1_21), ((ad 21), arE ty 10 y1_22)] H locs → W p l e (rmD 6) s m args below meth c H locs 0 0 Q (F0 m 26 ls []) := by
    intro y1_0 y1_1 y1_2 y1_3 y1_4 y1_5 y1_6 y1_7 y1_8 y1_9 y1_10 y1_11 y1_12 y1_13 y1_14 y1_15 y1_16 y1_17 y1_18 y1_19 y1_20 y1_21 y1_22 ls H locs ey1_0 ey1_1 ey1_2 ey1_3 ey1_4 ey1_5 ey1_6 ey1_7 ey1_8 ey1_9 ey1_10 ey1_11 ey1_12 ey1_13 ey1_14 ey1_15 ey1_16 ey1_17 ey1_18 ey1_19 ey1_20 ey1_21 ey1_22 hl X
    subst ey1_0; subst ey1_1; subst ey1_2; subst ey1_3; subst ey1_4; subst ey1_5; subst ey1_6; subst ey1_7; subst ey1_8; subst ey1_9; subst ey1_10; subst ey1_11; subst ey1_12; subst ey1_13; subst ey1_14; subst ey1_15; subst ey1_16; subst ey1_17; subst ey1_18; subst ey1_19; subst ey1_20; subst ey1_21; subst ey1_22
    refine lv_iload_n hx hb dX0_tickUntilStill_26 rfl (lv_at hl 0 rfl) ?_
    have e_0_0 : (f_X0_tickUntilStill_ad0 u) = ((tickN u (tkN u)).1 0) := by first | (rw [f_X0_tickUntilStill_ad0]; done) | (rw [f_X0_tickUntilStill_ad0]; rfl) | (simp only [f_X0_tickUntilStill_ad0]; done)
    have e_1_0 : (f_X0_tickUntilStill_ad1 u) = ((tickN u (tkN u)).1 1) := by first | (rw [f_X0_tickUntilStill_ad1]; done) | (rw [f_X0_tickUntilStill_ad1]; rfl) | (simp only [f_X0_tickUntilStill_ad1]; done)
    have e_3_0 : (f_X0_tickUntilStill_ad3 u) = ((tickN u (tkN u)).1 2) := by first | (rw [f_X0_tickUntilStill_ad3]; done) | (rw [f_X0_tickUntilStill_ad3]; rfl) | (simp only [f_X0_tickUntilStill_ad3]; done)
    have e_4_0 : (f_X0_tickUntilStill_ad4 u) = ((tickN u (tkN u)).1 3) := by first | (rw [f_X0_tickUntilStill_ad4]; done) | (rw [f_X0_tickUntilStill_ad4]; rfl) | (simp only [f_X0_tickUntilStill_ad4]; done)
    have e_5_0 : (f_X0_tickUntilStill_ad5 u) = ((tickN u (tkN u)).1 4) := by first | (rw [f_X0_tickUntilStill_ad5]; done) | (rw [f_X0_tickUntilStill_ad5]; rfl) | (simp only [f_X0_tickUntilStill_ad5]; done)
    have e_6_0 : (f_X0_tickUntilStill_ad6 u) = ((tickN u (tkN u)).1 5) := by first | (rw [f_X0_tickUntilStill_ad6]; done) | (rw [f_X0_tickUntilStill_ad6]; rfl) | (simp only [f_X0_tickUntilStill_ad6]; done)
    have e_7_1 : (f_X0_tickUntilStill_ad7 u) = ((tickN u (tkN u)).1 6) := by first | (rw [f_X0_tickUntilStill_ad7]; done) | (rw [f_X0_tickUntilStill_ad7]; rfl) | (simp only [f_X0_tickUntilStill_ad7]; done)
    have e_8_1 : (f_X0_tickUntilStill_ad8 u) = ((tickN u (tkN u)).1 7) := by first | (rw [f_X0_tickUntilStill_ad8]; done) | (rw [f_X0_tickUntilStill_ad8]; rfl) | (simp only [f_X0_tickUntilStill_ad8]; done)
    have e_9_1 : (f_X0_tickUntilStill_ad9 u) = ((tickN u (tkN u)).1 8) := by first | (rw [f_X0_tickUntilStill_ad9]; done) | (rw [f_X0_tickUntilStill_ad9]; rfl) | (simp only [f_X0_tickUntilStill_ad9]; done)
    have e_10_1 : (f_X0_tickUntilStill_ad10 u) = ((tickN u (tkN u)).1 9) := by first | (rw [f_X0_tickUntilStill_ad10]; done) | (rw [f_X0_tickUntilStill_ad10]; rfl) | (simp only [f_X0_tickUntilStill_ad10]; done)
    have e_11_0 : (f_X0_tickUntilStill_ad11_fi u) = ((tickN u (tkN u)).2 0) := by first | (rw [f_X0_tickUntilStill_ad11_fi]; done) | (rw [f_X0_tickUntilStill_ad11_fi]; rfl) | (simp only [f_X0_tickUntilStill_ad11_fi]; done)
    have e_11_1 : (f_X0_tickUntilStill_ad11_lc u) = ((tickN u (tkN u)).2 1) := by first | (rw [f_X0_tickUntilStill_ad11_lc]; done) | (rw [f_X0_tickUntilStill_ad11_lc]; rfl) | (simp only [f_X0_tickUntilStill_ad11_lc]; done)
    have e_12_1 : (f_X0_tickUntilStill_ad12 u) = ((tickN u (tkN u)).1 10) := by first | (rw [f_X0_tickUntilStill_ad12]; done) | (rw [f_X0_tickUntilStill_ad12]; rfl) | (simp only [f_X0_tickUntilStill_ad12]; done)
    have e_13_1 : (f_X0_tickUntilStill_ad13 u) = ((tickN u (tkN u)).1 11) := by first | (rw [f_X0_tickUntilStill_ad13]; done) | (rw [f_X0_tickUntilStill_ad13]; rfl) | (simp only [f_X0_tickUntilStill_ad13]; done)
    have e_14_1 : (f_X0_tickUntilStill_ad14 u) = ((tickN u (tkN u)).1 12) := by first | (rw [f_X0_tickUntilStill_ad14]; done) | (rw [f_X0_tickUntilStill_ad14]; rfl) | (simp only [f_X0_tickUntilStill_ad14]; done)
    have e_15_0 : (f_X0_tickUntilStill_ad15_cn u) = ((tickN u (tkN u)).2 2) := by first | (rw [f_X0_tickUntilStill_ad15_cn]; done) | (rw [f_X0_tickUntilStill_ad15_cn]; rfl) | (simp only [f_X0_tickUntilStill_ad15_cn]; done)
    have e_16_1 : (f_X0_tickUntilStill_ad16 u) = ((tickN u (tkN u)).1 13) := by first | (rw [f_X0_tickUntilStill_ad16]; done) | (rw [f_X0_tickUntilStill_ad16]; rfl) | (simp only [f_X0_tickUntilStill_ad16]; done)
    have e_17_1 : (f_X0_tickUntilStill_ad17 u) = ((tickN u (tkN u)).1 14) := by first | (rw [f_X0_tickUntilStill_ad17]; done) | (rw [f_X0_tickUntilStill_ad17]; rfl) | (simp only [f_X0_tickUntilStill_ad17]; done)
    have e_18_1 : (f_X0_tickUntilStill_ad18 u) = ((tickN u (tkN u)).1 15) := by first | (rw [f_X0_tickUntilStill_ad18]; done) | (rw [f_X0_tickUntilStill_ad18]; rfl) | (simp only [f_X0_tickUntilStill_ad18]; done)
    have e_19_0 : (f_X0_tickUntilStill_ad19_pn u) = ((tickN u (tkN u)).2 3) := by first | (rw [f_X0_tickUntilStill_ad19_pn]; done) | (rw [f_X0_tickUntilStill_ad19_pn]; rfl) | (simp only [f_X0_tickUntilStill_ad19_pn]; done)
    have e_20_1 : (f_X0_tickUntilStill_ad20 u) = ((tickN u (tkN u)).1 16) := by first | (rw [f_X0_tickUntilStill_ad20]; done) | (rw [f_X0_tickUntilStill_ad20]; rfl) | (simp only [f_X0_tickUntilStill_ad20]; done)
    have e_21_1 : (f_X0_tickUntilStill_ad21 u) = ((tickN u (tkN u)).1 17) := by first | (rw [f_X0_tickUntilStill_ad21]; done) | (rw [f_X0_tickUntilStill_ad21]; rfl) | (simp only [f_X0_tickUntilStill_ad21]; done)
    exact hret _ _ _ _ _ _ dX0_tickUntilStill_27 X (by rw [e_0_0, e_1_0, e_3_0, e_4_0, e_5_0, e_6_0, e_7_1, e_8_1, e_9_1, e_10_1, e_11_0, e_11_1, e_12_1, e_13_1, e_14_1, e_15_0, e_16_1, e_17_1, e_18_1, e_19_0, e_20_1, e_21_1]) rfl
  have L1 : ∀ (kf i : Nat) (y1_0 : Int32) (y1_1 : F1) (y1_2 : F1) (y1_3 : F1) (y1_4 : F1) (y1_5 : F1) (y1_6 : F1) (y1_7 : F1) (y1_8 : F1) (y1_9 : F1) (y1_10 : F1) (y1_11 : Nat) (y1_12 : Nat) (y1_13 : F1) (y1_14 : F1) (y1_15 : F1) (y1_16 : Nat) (y1_17 : F1) (y1_18 : F1) (y1_19 : F1) (y1_20 : Nat) (y1_21 : F1) (y1_22 : F1) (ls : Array Slot) (H : Heap) (locs : List Loc), 5000 - i < kf → (i ≤ 5000 ∧ scanB (tkP u) (5000 - i) i = tkN u) → y1_0 = (nI i) → y1_1 = ((tickN u i).1 0) → y1_2 = ((tickN u i).1 1) → y1_3 = ((tickN u i).1 2) → y1_4 = ((tickN u i).1 3) → y1_5 = ((tickN u i).1 4) → y1_6 = ((tickN u i).1 5) → y1_7 = ((tickN u i).1 6) → y1_8 = ((tickN u i).1 7) → y1_9 = ((tickN u i).1 8) → y1_10 = ((tickN u i).1 9) → y1_11 = ((tickN u i).2 0) → y1_12 = ((tickN u i).2 1) → y1_13 = ((tickN u i).1 10) → y1_14 = ((tickN u i).1 11) → y1_15 = ((tickN u i).1 12) → y1_16 = ((tickN u i).2 2) → y1_17 = ((tickN u i).1 13) → y1_18 = ((tickN u i).1 14) → y1_19 = ((tickN u i).1 15) → y1_20 = ((tickN u i).2 3) → y1_21 = ((tickN u i).1 16) → y1_22 = ((tickN u i).1 17) → lv_has ls 2 [(1, .int y1_0), (0, .ref (ad 0))] → Wd D A s.heap [((ad 0), caE y1_1 (ad 1) (ad 2) (ad 11) (ad 15) (ad 19)), ((ad 1), ctE y1_2 (ad 2) (ad 11)), ((ad 2), waE ty (ad 3) (ad 4) (ad 5) (ad 6)), ((ad 3), whE y1_3 (ad 7)), ((ad 4), whE y1_4 (ad 8)), ((ad 5), whE y1_5 (ad 9)), ((ad 6), whE y1_6 (ad 10)), ((ad 7), arE ty 5 y1_7), ((ad 8), arE ty 5 y1_8), ((ad 9), arE ty 5 y1_9), ((ad 10), arE ty 5 y1_10), ((ad 11), loE y1_11 y1_12 (ad 12) (ad 13) (ad 14)), ((ad 12), arE ty 40 y1_13), ((ad 13), arE ty 40 y1_14), ((ad 14), arE ty 40 y1_15), ((ad 15), roE y1_16 (ad 16) (ad 17) (ad 18)), ((ad 16), arE ty 12 y1_17), ((ad 17), arE ty 12 y1_18), ((ad 18), arE ty 12 y1_19), ((ad 19), scE y1_20 (ad 20) (ad 21)), ((ad 20), arE ty 10 y1_21), ((ad 21), arE ty 10 y1_22)] H locs → W p l e (rmD 6) s m args below meth c H locs 0 0 Q (F0 m 2 ls []) := by
    intro kf
    induction kf with
    | zero => intro i y1_0 y1_1 y1_2 y1_3 y1_4 y1_5 y1_6 y1_7 y1_8 y1_9 y1_10 y1_11 y1_12 y1_13 y1_14 y1_15 y1_16 y1_17 y1_18 y1_19 y1_20 y1_21 y1_22 ls H locs hk; exact absurd hk (Nat.not_lt_zero _)
    | succ kf ih1 =>
      intro i y1_0 y1_1 y1_2 y1_3 y1_4 y1_5 y1_6 y1_7 y1_8 y1_9 y1_10 y1_11 y1_12 y1_13 y1_14 y1_15 y1_16 y1_17 y1_18 y1_19 y1_20 y1_21 y1_22 ls H locs hk hI ey1_0 ey1_1 ey1_2 ey1_3 ey1_4 ey1_5 ey1_6 ey1_7 ey1_8 ey1_9 ey1_10 ey1_11 ey1_12 ey1_13 ey1_14 ey1_15 ey1_16 ey1_17 ey1_18 ey1_19 ey1_20 ey1_21 ey1_22 hl X
      subst ey1_0; subst ey1_1; subst ey1_2; subst ey1_3; subst ey1_4; subst ey1_5; subst ey1_6; subst ey1_7; subst ey1_8; subst ey1_9; subst ey1_10; subst ey1_11; subst ey1_12; subst ey1_13; subst ey1_14; subst ey1_15; subst ey1_16; subst ey1_17; subst ey1_18; subst ey1_19; subst ey1_20; subst ey1_21; subst ey1_22
      obtain ⟨hI1, hI2⟩ := hI
      have hT : CarOK (tickN u i) := tickN_ok ad hO i
      refine lv_iload_n hx hb dX0_tickUntilStill_2 rfl (lv_at hl 0 rfl) ?_
      refine lv_sipush (v := 5000) hx hb dX0_tickUntilStill_3 (by decide) ?_
      refine lv_icmp_ge (tgt := 26) hx hb dX0_tickUntilStill_6 (by decide) (fun c0_0 => ?_) (fun c0_0 => ?_)
      · have hE : tkN u = i := by rw [← hI2]; exact (by rw [show i = 5000 from eq_of_nIle (a := 5000) (by decide) (by omega) hI1 c0_0]; rfl)
        exact K1 (nI i) ((tickN u i).1 0) ((tickN u i).1 1) ((tickN u i).1 2) ((tickN u i).1 3) ((tickN u i).1 4) ((tickN u i).1 5) ((tickN u i).1 6) ((tickN u i).1 7) ((tickN u i).1 8) ((tickN u i).1 9) ((tickN u i).2 0) ((tickN u i).2 1) ((tickN u i).1 10) ((tickN u i).1 11) ((tickN u i).1 12) ((tickN u i).2 2) ((tickN u i).1 13) ((tickN u i).1 14) ((tickN u i).1 15) ((tickN u i).2 3) ((tickN u i).1 16) ((tickN u i).1 17) _ _ _ (by rw [hE]) (by rw [hE]) (by rw [hE]) (by rw [hE]) (by rw [hE]) (by rw [hE]) (by rw [hE]) (by rw [hE]) (by rw [hE]) (by rw [hE]) (by rw [hE]) (by rw [hE]) (by rw [hE]) (by rw [hE]) (by rw [hE]) (by rw [hE]) (by rw [hE]) (by rw [hE]) (by rw [hE]) (by rw [hE]) (by rw [hE]) (by rw [hE]) (by rw [hE]) (lv_sub hl [0, 1] rfl) X
      · refine lv_aload_n hx hb dX0_tickUntilStill_9 rfl (lv_at hl 1 rfl) ?_
        refine get_ca_5 C hK X 0 rfl fl_X0_48 dX0_tickUntilStill_10 ?_
        refine lv_if_le (tgt := 26) hx hb dX0_tickUntilStill_13 (by decide) (fun c1_1 => ?_) (fun c1_1 => ?_)
        · have hE : tkN u = i := by rw [← hI2]; exact scan_stop (by simp [tkP, c1_1])
          exact K1 (nI i) ((tickN u i).1 0) ((tickN u i).1 1) ((tickN u i).1 2) ((tickN u i).1 3) ((tickN u i).1 4) ((tickN u i).1 5) ((tickN u i).1 6) ((tickN u i).1 7) ((tickN u i).1 8) ((tickN u i).1 9) ((tickN u i).2 0) ((tickN u i).2 1) ((tickN u i).1 10) ((tickN u i).1 11) ((tickN u i).1 12) ((tickN u i).2 2) ((tickN u i).1 13) ((tickN u i).1 14) ((tickN u i).1 15) ((tickN u i).2 3) ((tickN u i).1 16) ((tickN u i).1 17) _ _ _ (by rw [hE]) (by rw [hE]) (by rw [hE]) (by rw [hE]) (by rw [hE]) (by rw [hE]) (by rw [hE]) (by rw [hE]) (by rw [hE]) (by rw [hE]) (by rw [hE]) (by rw [hE]) (by rw [hE]) (by rw [hE]) (by rw [hE]) (by rw [hE]) (by rw [hE]) (by rw [hE]) (by rw [hE]) (by rw [hE]) (by rw [hE]) (by rw [hE]) (by rw [hE]) (lv_sub hl [0, 1] rfl) X
        · refine lv_aload_n hx hb dX0_tickUntilStill_16 rfl (lv_at hl 1 rfl) ?_
          refine s_cVv (ws' := [((ad 0), caE ((b_X0_tick_u (tickN u i)).1 0) (ad 1) (ad 2) (ad 11) (ad 15) (ad 19)), ((ad 1), ctE ((b_X0_tick_u (tickN u i)).1 1) (ad 2) (ad 11)), ((ad 2), waE ty (ad 3) (ad 4) (ad 5) (ad 6)), ((ad 3), whE ((b_X0_tick_u (tickN u i)).1 2) (ad 7)), ((ad 4), whE ((b_X0_tick_u (tickN u i)).1 3) (ad 8)), ((ad 5), whE ((b_X0_tick_u (tickN u i)).1 4) (ad 9)), ((ad 6), whE ((b_X0_tick_u (tickN u i)).1 5) (ad 10)), ((ad 7), arE ty 5 ((b_X0_tick_u (tickN u i)).1 6)), ((ad 8), arE ty 5 ((b_X0_tick_u (tickN u i)).1 7)), ((ad 9), arE ty 5 ((b_X0_tick_u (tickN u i)).1 8)), ((ad 10), arE ty 5 ((b_X0_tick_u (tickN u i)).1 9)), ((ad 11), loE ((b_X0_tick_u (tickN u i)).2 0) ((b_X0_tick_u (tickN u i)).2 1) (ad 12) (ad 13) (ad 14)), ((ad 12), arE ty 40 ((b_X0_tick_u (tickN u i)).1 10)), ((ad 13), arE ty 40 ((b_X0_tick_u (tickN u i)).1 11)), ((ad 14), arE ty 40 ((b_X0_tick_u (tickN u i)).1 12)), ((ad 15), roE ((b_X0_tick_u (tickN u i)).2 2) (ad 16) (ad 17) (ad 18)), ((ad 16), arE ty 12 ((b_X0_tick_u (tickN u i)).1 13)), ((ad 17), arE ty 12 ((b_X0_tick_u (tickN u i)).1 14)), ((ad 18), arE ty 12 ((b_X0_tick_u (tickN u i)).1 15)), ((ad 19), scE ((b_X0_tick_u (tickN u i)).2 3) (ad 20) (ad 21)), ((ad 20), arE ty 10 ((b_X0_tick_u (tickN u i)).1 16)), ((ad 21), arE ty 10 ((b_X0_tick_u (tickN u i)).1 17))]) C hK hA X (c_X0_tickB l D ty ad (tickN u i) hT) [0, 1, 2, 3, 4, 5, 6, 7, 8, 9, 10, 11, 12, 13, 14, 15, 16, 17, 18, 19, 20, 21] (pk_c rfl (pk_c rfl (pk_c rfl (pk_c rfl (pk_c rfl (pk_c rfl (pk_c rfl (pk_c rfl (pk_c rfl (pk_c rfl (pk_c rfl (pk_c rfl (pk_c rfl (pk_c rfl (pk_c rfl (pk_c rfl (pk_c rfl (pk_c rfl (pk_c rfl (pk_c rfl (pk_c rfl (pk_c rfl pk_n)))))))))))))))))))))) rfl (pk_c rfl (pk_c rfl (pk_c rfl (pk_c rfl (pk_c rfl (pk_c rfl (pk_c rfl (pk_c rfl (pk_c rfl (pk_c rfl (pk_c rfl (pk_c rfl (pk_c rfl (pk_c rfl (pk_c rfl (pk_c rfl (pk_c rfl (pk_c rfl (pk_c rfl (pk_c rfl (pk_c rfl (pk_c rfl pk_n)))))))))))))))))))))) (em_t (em_t (em_t (em_t (em_t (em_t (em_t (em_t (em_t (em_t (em_t (em_t (em_t (em_t (em_t (em_t (em_t (em_t (em_t (em_t (em_t (em_t em_n)))))))))))))))))))))) rfl ml_X0_tick wm_X0_106 (q0 := 0) rfl rfl rfl ⟨Nat.le_of_ble_eq_true rfl, Nat.le_of_ble_eq_true rfl⟩ ⟨Nat.zero_le _, Nat.zero_le _⟩ hl.1 rfl (Nat.le_of_ble_eq_true rfl) dX0_tickUntilStill_17 (fun H locs X => ?_)
          refine lv_iinc (v := ((nI i) + 1)) (lv' := [(1, .int ((nI i) + 1)), (0, .ref (ad 0))]) hx hb dX0_tickUntilStill_20 hl (k := 0) rfl rfl (by decide) rfl (fun ls hl => ?_)
          refine lv_goto (tgt := 2) hx hb dX0_tickUntilStill_23 (by decide) ?_
          have h1 : i < 5000 := lt_of_nnIle (a := 5000) (b := i) (by decide) (by omega) c0_0
          have hP : tkP u i = true := by simp [tkP, Int32.not_le.mp c1_1]
          exact ih1 (i + 1) ((nI i) + 1) ((b_X0_tick_u (tickN u i)).1 0) ((b_X0_tick_u (tickN u i)).1 1) ((b_X0_tick_u (tickN u i)).1 2) ((b_X0_tick_u (tickN u i)).1 3) ((b_X0_tick_u (tickN u i)).1 4) ((b_X0_tick_u (tickN u i)).1 5) ((b_X0_tick_u (tickN u i)).1 6) ((b_X0_tick_u (tickN u i)).1 7) ((b_X0_tick_u (tickN u i)).1 8) ((b_X0_tick_u (tickN u i)).1 9) ((b_X0_tick_u (tickN u i)).2 0) ((b_X0_tick_u (tickN u i)).2 1) ((b_X0_tick_u (tickN u i)).1 10) ((b_X0_tick_u (tickN u i)).1 11) ((b_X0_tick_u (tickN u i)).1 12) ((b_X0_tick_u (tickN u i)).2 2) ((b_X0_tick_u (tickN u i)).1 13) ((b_X0_tick_u (tickN u i)).1 14) ((b_X0_tick_u (tickN u i)).1 15) ((b_X0_tick_u (tickN u i)).2 3) ((b_X0_tick_u (tickN u i)).1 16) ((b_X0_tick_u (tickN u i)).1 17) _ _ _ (by omega) ⟨by have := lt_of_nnIle (a := 5000) (b := i) (by decide) (by omega) c0_0; omega, by have := lt_of_nnIle (a := 5000) (b := i) (by decide) (by omega) c0_0; rw [← hI2, ← scan_go (k := 5000 - i) (by omega) hP, show 5000 - (i + 1) = 5000 - i - 1 by omega]⟩ (nI_1 i) rfl rfl rfl rfl rfl rfl rfl rfl rfl rfl rfl rfl rfl rfl rfl rfl rfl rfl rfl rfl rfl rfl (lv_sub hl [0, 1] rfl) X
  exact L1 (5000 + 1) 0 0 (u.1 0) (u.1 1) (u.1 2) (u.1 3) (u.1 4) (u.1 5) (u.1 6) (u.1 7) (u.1 8) (u.1 9) (u.2 0) (u.2 1) (u.1 10) (u.1 11) (u.1 12) (u.2 2) (u.1 13) (u.1 14) (u.1 15) (u.2 3) (u.1 16) (u.1 17) _ _ _ (by omega) ⟨by omega, rfl⟩ rfl rfl rfl rfl rfl rfl rfl rfl rfl rfl rfl rfl rfl rfl rfl rfl rfl rfl rfl rfl rfl rfl rfl (lv_sub hl [0, 1] rfl) X
def b_X0_tickUntilStill_u_r (u : CarS) : Nat → F1
  | 0 => (f_X0_tickUntilStill_ad0 u)
  | 1 => (f_X0_tickUntilStill_ad1 u)
  | 2 => (f_X0_tickUntilStill_ad3 u)
  | 3 => (f_X0_tickUntilStill_ad4 u)
  | 4 => (f_X0_tickUntilStill_ad5 u)
  | 5 => (f_X0_tickUntilStill_ad6 u)
  | 6 => (f_X0_tickUntilStill_ad7 u)
  | 7 => (f_X0_tickUntilStill_ad8 u)
  | 8 => (f_X0_tickUntilStill_ad9 u)
  | 9 => (f_X0_tickUntilStill_ad10 u)
  | 10 => (f_X0_tickUntilStill_ad12 u)
  | 11 => (f_X0_tickUntilStill_ad13 u)
  | 12 => (f_X0_tickUntilStill_ad14 u)
  | 13 => (f_X0_tickUntilStill_ad16 u)
  | 14 => (f_X0_tickUntilStill_ad17 u)
  | 15 => (f_X0_tickUntilStill_ad18 u)
  | 16 => (f_X0_tickUntilStill_ad20 u)
  | 17 => (f_X0_tickUntilStill_ad21 u)
  | j => u.1 j
def b_X0_tickUntilStill_u_n (u : CarS) : Nat → Nat
  | 0 => (f_X0_tickUntilStill_ad11_fi u)
  | 1 => (f_X0_tickUntilStill_ad11_lc u)
  | 2 => (f_X0_tickUntilStill_ad15_cn u)
  | 3 => (f_X0_tickUntilStill_ad19_pn u)
  | j => u.2 j
def b_X0_tickUntilStill_u (u : CarS) : CarS := (b_X0_tickUntilStill_u_r u, b_X0_tickUntilStill_u_n u)
theorem b_X0_tickUntilStill_u_f1 (u : CarS) : (b_X0_tickUntilStill_u u).1 = b_X0_tickUntilStill_u_r u := rfl
theorem b_X0_tickUntilStill_u_f2 (u : CarS) : (b_X0_tickUntilStill_u u).2 = b_X0_tickUntilStill_u_n u := rfl
theorem b_X0_tickUntilStill_u_r0 (u : CarS) : (b_X0_tickUntilStill_u u).1 0 = (f_X0_tickUntilStill_ad0 u) := by rw [b_X0_tickUntilStill_u_f1, b_X0_tickUntilStill_u_r]
theorem b_X0_tickUntilStill_u_r1 (u : CarS) : (b_X0_tickUntilStill_u u).1 1 = (f_X0_tickUntilStill_ad1 u) := by rw [b_X0_tickUntilStill_u_f1, b_X0_tickUntilStill_u_r]
theorem b_X0_tickUntilStill_u_r2 (u : CarS) : (b_X0_tickUntilStill_u u).1 2 = (f_X0_tickUntilStill_ad3 u) := by rw [b_X0_tickUntilStill_u_f1, b_X0_tickUntilStill_u_r]
theorem b_X0_tickUntilStill_u_r3 (u : CarS) : (b_X0_tickUntilStill_u u).1 3 = (f_X0_tickUntilStill_ad4 u) := by rw [b_X0_tickUntilStill_u_f1, b_X0_tickUntilStill_u_r]
theorem b_X0_tickUntilStill_u_r4 (u : CarS) : (b_X0_tickUntilStill_u u).1 4 = (f_X0_tickUntilStill_ad5 u) := by rw [b_X0_tickUntilStill_u_f1, b_X0_tickUntilStill_u_r]
theorem b_X0_tickUntilStill_u_r5 (u : CarS) : (b_X0_tickUntilStill_u u).1 5 = (f_X0_tickUntilStill_ad6 u) := by rw [b_X0_tickUntilStill_u_f1, b_X0_tickUntilStill_u_r]
theorem b_X0_tickUntilStill_u_r6 (u : CarS) : (b_X0_tickUntilStill_u u).1 6 = (f_X0_tickUntilStill_ad7 u) := by rw [b_X0_tickUntilStill_u_f1, b_X0_tickUntilStill_u_r]
theorem b_X0_tickUntilStill_u_r7 (u : CarS) : (b_X0_tickUntilStill_u u).1 7 = (f_X0_tickUntilStill_ad8 u) := by rw [b_X0_tickUntilStill_u_f1, b_X0_tickUntilStill_u_r]
theorem b_X0_tickUntilStill_u_r8 (u : CarS) : (b_X0_tickUntilStill_u u).1 8 = (f_X0_tickUntilStill_ad9 u) := by rw [b_X0_tickUntilStill_u_f1, b_X0_tickUntilStill_u_r]
theorem b_X0_tickUntilStill_u_r9 (u : CarS) : (b_X0_tickUntilStill_u u).1 9 = (f_X0_tickUntilStill_ad10 u) := by rw [b_X0_tickUntilStill_u_f1, b_X0_tickUntilStill_u_r]
theorem b_X0_tickUntilStill_u_r10 (u : CarS) : (b_X0_tickUntilStill_u u).1 10 = (f_X0_tickUntilStill_ad12 u) := by rw [b_X0_tickUntilStill_u_f1, b_X0_tickUntilStill_u_r]
theorem b_X0_tickUntilStill_u_r11 (u : CarS) : (b_X0_tickUntilStill_u u).1 11 = (f_X0_tickUntilStill_ad13 u) := by rw [b_X0_tickUntilStill_u_f1, b_X0_tickUntilStill_u_r]
theorem b_X0_tickUntilStill_u_r12 (u : CarS) : (b_X0_tickUntilStill_u u).1 12 = (f_X0_tickUntilStill_ad14 u) := by rw [b_X0_tickUntilStill_u_f1, b_X0_tickUntilStill_u_r]
theorem b_X0_tickUntilStill_u_r13 (u : CarS) : (b_X0_tickUntilStill_u u).1 13 = (f_X0_tickUntilStill_ad16 u) := by rw [b_X0_tickUntilStill_u_f1, b_X0_tickUntilStill_u_r]
theorem b_X0_tickUntilStill_u_r14 (u : CarS) : (b_X0_tickUntilStill_u u).1 14 = (f_X0_tickUntilStill_ad17 u) := by rw [b_X0_tickUntilStill_u_f1, b_X0_tickUntilStill_u_r]
theorem b_X0_tickUntilStill_u_r15 (u : CarS) : (b_X0_tickUntilStill_u u).1 15 = (f_X0_tickUntilStill_ad18 u) := by rw [b_X0_tickUntilStill_u_f1, b_X0_tickUntilStill_u_r]
theorem b_X0_tickUntilStill_u_r16 (u : CarS) : (b_X0_tickUntilStill_u u).1 16 = (f_X0_tickUntilStill_ad20 u) := by rw [b_X0_tickUntilStill_u_f1, b_X0_tickUntilStill_u_r]
theorem b_X0_tickUntilStill_u_r17 (u : CarS) : (b_X0_tickUntilStill_u u).1 17 = (f_X0_tickUntilStill_ad21 u) := by rw [b_X0_tickUntilStill_u_f1, b_X0_tickUntilStill_u_r]
theorem b_X0_tickUntilStill_u_n0 (u : CarS) : (b_X0_tickUntilStill_u u).2 0 = (f_X0_tickUntilStill_ad11_fi u) := by rw [b_X0_tickUntilStill_u_f2, b_X0_tickUntilStill_u_n]
theorem b_X0_tickUntilStill_u_n1 (u : CarS) : (b_X0_tickUntilStill_u u).2 1 = (f_X0_tickUntilStill_ad11_lc u) := by rw [b_X0_tickUntilStill_u_f2, b_X0_tickUntilStill_u_n]
theorem b_X0_tickUntilStill_u_n2 (u : CarS) : (b_X0_tickUntilStill_u u).2 2 = (f_X0_tickUntilStill_ad15_cn u) := by rw [b_X0_tickUntilStill_u_f2, b_X0_tickUntilStill_u_n]
theorem b_X0_tickUntilStill_u_n3 (u : CarS) : (b_X0_tickUntilStill_u u).2 3 = (f_X0_tickUntilStill_ad19_pn u) := by rw [b_X0_tickUntilStill_u_f2, b_X0_tickUntilStill_u_n]
theorem okC_X0_tickUntilStill_u (ad : Nat → Nat) (u : CarS) (hO : CarOK u) : CarOK (b_X0_tickUntilStill_u u) := by
  unfold CarOK
  rw [b_X0_tickUntilStill_u_r2, b_X0_tickUntilStill_u_r3, b_X0_tickUntilStill_u_r4, b_X0_tickUntilStill_u_r5, b_X0_tickUntilStill_u_n0, b_X0_tickUntilStill_u_n1, b_X0_tickUntilStill_u_n2, b_X0_tickUntilStill_u_n3]
  exact tickN_ok ad hO _
set_option maxHeartbeats 4000000 in
set_option maxRecDepth 100000 in
theorem c_X0_tickUntilStillB (l : Launch) (D : va_G) (ty : Nat → ClassId) (ad : Nat → Nat) (u : CarS) (hO : CarOK u) : MC l D ty yX0_tickUntilStill cX0_tickUntilStill 2 (some .int) 6 [.ref (ad 0)] [((ad 0), caE (u.1 0) (ad 1) (ad 2) (ad 11) (ad 15) (ad 19)), ((ad 1), ctE (u.1 1) (ad 2) (ad 11)), ((ad 2), waE ty (ad 3) (ad 4) (ad 5) (ad 6)), ((ad 3), whE (u.1 2) (ad 7)), ((ad 4), whE (u.1 3) (ad 8)), ((ad 5), whE (u.1 4) (ad 9)), ((ad 6), whE (u.1 5) (ad 10)), ((ad 7), arE ty 5 (u.1 6)), ((ad 8), arE ty 5 (u.1 7)), ((ad 9), arE ty 5 (u.1 8)), ((ad 10), arE ty 5 (u.1 9)), ((ad 11), loE (u.2 0) (u.2 1) (ad 12) (ad 13) (ad 14)), ((ad 12), arE ty 40 (u.1 10)), ((ad 13), arE ty 40 (u.1 11)), ((ad 14), arE ty 40 (u.1 12)), ((ad 15), roE (u.2 2) (ad 16) (ad 17) (ad 18)), ((ad 16), arE ty 12 (u.1 13)), ((ad 17), arE ty 12 (u.1 14)), ((ad 18), arE ty 12 (u.1 15)), ((ad 19), scE (u.2 3) (ad 20) (ad 21)), ((ad 20), arE ty 10 (u.1 16)), ((ad 21), arE ty 10 (u.1 17))] (some (.int (nI (tkN u)))) [((ad 0), caE ((b_X0_tickUntilStill_u u).1 0) (ad 1) (ad 2) (ad 11) (ad 15) (ad 19)), ((ad 1), ctE ((b_X0_tickUntilStill_u u).1 1) (ad 2) (ad 11)), ((ad 2), waE ty (ad 3) (ad 4) (ad 5) (ad 6)), ((ad 3), whE ((b_X0_tickUntilStill_u u).1 2) (ad 7)), ((ad 4), whE ((b_X0_tickUntilStill_u u).1 3) (ad 8)), ((ad 5), whE ((b_X0_tickUntilStill_u u).1 4) (ad 9)), ((ad 6), whE ((b_X0_tickUntilStill_u u).1 5) (ad 10)), ((ad 7), arE ty 5 ((b_X0_tickUntilStill_u u).1 6)), ((ad 8), arE ty 5 ((b_X0_tickUntilStill_u u).1 7)), ((ad 9), arE ty 5 ((b_X0_tickUntilStill_u u).1 8)), ((ad 10), arE ty 5 ((b_X0_tickUntilStill_u u).1 9)), ((ad 11), loE ((b_X0_tickUntilStill_u u).2 0) ((b_X0_tickUntilStill_u u).2 1) (ad 12) (ad 13) (ad 14)), ((ad 12), arE ty 40 ((b_X0_tickUntilStill_u u).1 10)), ((ad 13), arE ty 40 ((b_X0_tickUntilStill_u u).1 11)), ((ad 14), arE ty 40 ((b_X0_tickUntilStill_u u).1 12)), ((ad 15), roE ((b_X0_tickUntilStill_u u).2 2) (ad 16) (ad 17) (ad 18)), ((ad 16), arE ty 12 ((b_X0_tickUntilStill_u u).1 13)), ((ad 17), arE ty 12 ((b_X0_tickUntilStill_u u).1 14)), ((ad 18), arE ty 12 ((b_X0_tickUntilStill_u u).1 15)), ((ad 19), scE ((b_X0_tickUntilStill_u u).2 3) (ad 20) (ad 21)), ((ad 20), arE ty 10 ((b_X0_tickUntilStill_u u).1 16)), ((ad 21), arE ty 10 ((b_X0_tickUntilStill_u u).1 17))] := by
  simp only [b_X0_tickUntilStill_u_r0, b_X0_tickUntilStill_u_r1, b_X0_tickUntilStill_u_r2, b_X0_tickUntilStill_u_r3, b_X0_tickUntilStill_u_r4, b_X0_tickUntilStill_u_r5, b_X0_tickUntilStill_u_r6, b_X0_tickUntilStill_u_r7, b_X0_tickUntilStill_u_r8, b_X0_tickUntilStill_u_r9, b_X0_tickUntilStill_u_r10, b_X0_tickUntilStill_u_r11, b_X0_tickUntilStill_u_r12, b_X0_tickUntilStill_u_r13, b_X0_tickUntilStill_u_r14, b_X0_tickUntilStill_u_r15, b_X0_tickUntilStill_u_r16, b_X0_tickUntilStill_u_r17, b_X0_tickUntilStill_u_n0, b_X0_tickUntilStill_u_n1, b_X0_tickUntilStill_u_n2, b_X0_tickUntilStill_u_n3]
  exact c_X0_tickUntilStill l D ty ad u hO
def f_X0_carValue (u : CarS) (wt : Int32) : Int32 := (if wt = 0 then ((u.1 0) 0) else (if wt = 1 then ((u.1 0) 1) else (if wt = 2 then ((u.1 0) 2) else (if wt = 3 then ((u.1 0) 3) else (if wt = 4 then ((u.1 1) 0) else (if wt = 5 then ((u.1 1) 1) else (if wt = 6 then ((u.1 1) 2) else (if wt = 7 then ((u.1 1) 3) else (if wt = 8 then (f_X6_asNumber (f_X1_isActive (u.1 1) (u.1 2) (u.1 3) (u.1 4) (u.1 5) ((u.1 0) 3))) else (f_X6_asNumber ((u.1 1) 4)))))))))))
set_option maxHeartbeats 4000000 in
set_option maxRecDepth 100000 in
theorem c_X0_carValue (l : Launch) (D : va_G) (ty : Nat → ClassId) (ad : Nat → Nat) (u : CarS) (wt : Int32) : MC l D ty yX0_carValue cX0_carValue 2 (some .int) 2 [.ref (ad 0), .int wt] [((ad 0), caE (u.1 0) (ad 1) (ad 2) (ad 11) (ad 15) (ad 19)), ((ad 1), ctE (u.1 1) (ad 2) (ad 11)), ((ad 2), waE ty (ad 3) (ad 4) (ad 5) (ad 6)), ((ad 3), whE (u.1 2) (ad 7)), ((ad 4), whE (u.1 3) (ad 8)), ((ad 5), whE (u.1 4) (ad 9)), ((ad 6), whE (u.1 5) (ad 10))] (some (.int (f_X0_carValue u wt))) [((ad 0), caE (u.1 0) (ad 1) (ad 2) (ad 11) (ad 15) (ad 19)), ((ad 1), ctE (u.1 1) (ad 2) (ad 11)), ((ad 2), waE ty (ad 3) (ad 4) (ad 5) (ad 6)), ((ad 3), whE (u.1 2) (ad 7)), ((ad 4), whE (u.1 3) (ad 8)), ((ad 5), whE (u.1 4) (ad 9)), ((ad 6), whE (u.1 5) (ad 10))] := by
  refine mc_i (by decide +kernel) (Nat.le_of_ble_eq_true rfl) ?_
  intro p e s m args below meth c A Q ls C hK hA X hret hl
  have hx := C.1
  have hb := C.2.1
  have hl : lv_has ls 2 [(0, .ref (ad 0)), (1, .int wt)] := hl
  have X : Wd D A s.heap [((ad 0), caE (u.1 0) (ad 1) (ad 2) (ad 11) (ad 15) (ad 19)), ((ad 1), ctE (u.1 1) (ad 2) (ad 11)), ((ad 2), waE ty (ad 3) (ad 4) (ad 5) (ad 6)), ((ad 3), whE (u.1 2) (ad 7)), ((ad 4), whE (u.1 3) (ad 8)), ((ad 5), whE (u.1 4) (ad 9)), ((ad 6), whE (u.1 5) (ad 10))] s.heap [] := X
  refine lv_iload_n hx hb dX0_carValue_0 rfl (lv_at hl 1 rfl) ?_
  by_cases c0_0 : wt = 0
  · refine lv_tableIn (off := 51) (tgt := 52) hx hb dX0_carValue_1 (by rw [c0_0]; decide) (by rw [c0_0]; decide) (by rw [c0_0]; rfl) (by decide) ?_
    refine lv_aload_n hx hb dX0_carValue_52 rfl (lv_at hl 0 rfl) ?_
    refine get_ca_5 C hK X 0 rfl fl_X0_48 dX0_carValue_53 ?_
    exact hret _ _ _ _ _ _ dX0_carValue_56 X rfl (by first | (rw [f_X0_carValue, if_pos c0_0]; done) | (rw [f_X0_carValue, if_pos c0_0]; rfl) | (simp only [f_X0_carValue, if_pos c0_0]; done))
  · by_cases c1_1 : wt = 1
    · refine lv_tableIn (off := 56) (tgt := 57) hx hb dX0_carValue_1 (by rw [c1_1]; decide) (by rw [c1_1]; decide) (by rw [c1_1]; rfl) (by decide) ?_
      refine lv_aload_n hx hb dX0_carValue_57 rfl (lv_at hl 0 rfl) ?_
      refine get_ca_6 C hK X 0 rfl fl_X0_52 dX0_carValue_58 ?_
      exact hret _ _ _ _ _ _ dX0_carValue_61 X rfl (by first | (rw [f_X0_carValue, if_neg c0_0, if_pos c1_1]; done) | (rw [f_X0_carValue, if_neg c0_0, if_pos c1_1]; rfl) | (simp only [f_X0_carValue, if_neg c0_0, if_pos c1_1]; done))
    · by_cases c2_2 : wt = 2
      · refine lv_tableIn (off := 61) (tgt := 62) hx hb dX0_carValue_1 (by rw [c2_2]; decide) (by rw [c2_2]; decide) (by rw [c2_2]; rfl) (by decide) ?_
        refine lv_aload_n hx hb dX0_carValue_62 rfl (lv_at hl 0 rfl) ?_
        refine get_ca_7 C hK X 0 rfl fl_X0_55 dX0_carValue_63 ?_
        exact hret _ _ _ _ _ _ dX0_carValue_66 X rfl (by first | (rw [f_X0_carValue, if_neg c0_0, if_neg c1_1, if_pos c2_2]; done) | (rw [f_X0_carValue, if_neg c0_0, if_neg c1_1, if_pos c2_2]; rfl) | (simp only [f_X0_carValue, if_neg c0_0, if_neg c1_1, if_pos c2_2]; done))
      · by_cases c3_3 : wt = 3
        · refine lv_tableIn (off := 66) (tgt := 67) hx hb dX0_carValue_1 (by rw [c3_3]; decide) (by rw [c3_3]; decide) (by rw [c3_3]; rfl) (by decide) ?_
          refine lv_aload_n hx hb dX0_carValue_67 rfl (lv_at hl 0 rfl) ?_
          refine get_ca_8 C hK X 0 rfl fl_X0_58 dX0_carValue_68 ?_
          exact hret _ _ _ _ _ _ dX0_carValue_71 X rfl (by first | (rw [f_X0_carValue, if_neg c0_0, if_neg c1_1, if_neg c2_2, if_pos c3_3]; done) | (rw [f_X0_carValue, if_neg c0_0, if_neg c1_1, if_neg c2_2, if_pos c3_3]; rfl) | (simp only [f_X0_carValue, if_neg c0_0, if_neg c1_1, if_neg c2_2, if_pos c3_3]; done))
        · by_cases c4_4 : wt = 4
          · refine lv_tableIn (off := 71) (tgt := 72) hx hb dX0_carValue_1 (by rw [c4_4]; decide) (by rw [c4_4]; decide) (by rw [c4_4]; rfl) (by decide) ?_
            refine lv_aload_n hx hb dX0_carValue_72 rfl (lv_at hl 0 rfl) ?_
            refine get_ca_0 C hK X 0 rfl fl_X0_12 dX0_carValue_73 ?_
            refine get_ct_3 C hK X 1 rfl fl_X0_126 dX0_carValue_76 ?_
            exact hret _ _ _ _ _ _ dX0_carValue_79 X rfl (by first | (rw [f_X0_carValue, if_neg c0_0, if_neg c1_1, if_neg c2_2, if_neg c3_3, if_pos c4_4]; done) | (rw [f_X0_carValue, if_neg c0_0, if_neg c1_1, if_neg c2_2, if_neg c3_3, if_pos c4_4]; rfl) | (simp only [f_X0_carValue, if_neg c0_0, if_neg c1_1, if_neg c2_2, if_neg c3_3, if_pos c4_4]; done))
          · by_cases c5_5 : wt = 5
            · refine lv_tableIn (off := 79) (tgt := 80) hx hb dX0_carValue_1 (by rw [c5_5]; decide) (by rw [c5_5]; decide) (by rw [c5_5]; rfl) (by decide) ?_
              refine lv_aload_n hx hb dX0_carValue_80 rfl (lv_at hl 0 rfl) ?_
              refine get_ca_0 C hK X 0 rfl fl_X0_12 dX0_carValue_81 ?_
              refine get_ct_4 C hK X 1 rfl fl_X0_129 dX0_carValue_84 ?_
              exact hret _ _ _ _ _ _ dX0_carValue_87 X rfl (by first | (rw [f_X0_carValue, if_neg c0_0, if_neg c1_1, if_neg c2_2, if_neg c3_3, if_neg c4_4, if_pos c5_5]; done) | (rw [f_X0_carValue, if_neg c0_0, if_neg c1_1, if_neg c2_2, if_neg c3_3, if_neg c4_4, if_pos c5_5]; rfl) | (simp only [f_X0_carValue, if_neg c0_0, if_neg c1_1, if_neg c2_2, if_neg c3_3, if_neg c4_4, if_pos c5_5]; done))
            · by_cases c6_6 : wt = 6
              · refine lv_tableIn (off := 87) (tgt := 88) hx hb dX0_carValue_1 (by rw [c6_6]; decide) (by rw [c6_6]; decide) (by rw [c6_6]; rfl) (by decide) ?_
                refine lv_aload_n hx hb dX0_carValue_88 rfl (lv_at hl 0 rfl) ?_
                refine get_ca_0 C hK X 0 rfl fl_X0_12 dX0_carValue_89 ?_
                refine get_ct_5 C hK X 1 rfl fl_X0_132 dX0_carValue_92 ?_
                exact hret _ _ _ _ _ _ dX0_carValue_95 X rfl (by first | (rw [f_X0_carValue, if_neg c0_0, if_neg c1_1, if_neg c2_2, if_neg c3_3, if_neg c4_4, if_neg c5_5, if_pos c6_6]; done) | (rw [f_X0_carValue, if_neg c0_0, if_neg c1_1, if_neg c2_2, if_neg c3_3, if_neg c4_4, if_neg c5_5, if_pos c6_6]; rfl) | (simp only [f_X0_carValue, if_neg c0_0, if_neg c1_1, if_neg c2_2, if_neg c3_3, if_neg c4_4, if_neg c5_5, if_pos c6_6]; done))
              · by_cases c7_7 : wt = 7
                · refine lv_tableIn (off := 95) (tgt := 96) hx hb dX0_carValue_1 (by rw [c7_7]; decide) (by rw [c7_7]; decide) (by rw [c7_7]; rfl) (by decide) ?_
                  refine lv_aload_n hx hb dX0_carValue_96 rfl (lv_at hl 0 rfl) ?_
                  refine get_ca_0 C hK X 0 rfl fl_X0_12 dX0_carValue_97 ?_
                  refine get_ct_6 C hK X 1 rfl fl_X0_135 dX0_carValue_100 ?_
                  exact hret _ _ _ _ _ _ dX0_carValue_103 X rfl (by first | (rw [f_X0_carValue, if_neg c0_0, if_neg c1_1, if_neg c2_2, if_neg c3_3, if_neg c4_4, if_neg c5_5, if_neg c6_6, if_pos c7_7]; done) | (rw [f_X0_carValue, if_neg c0_0, if_neg c1_1, if_neg c2_2, if_neg c3_3, if_neg c4_4, if_neg c5_5, if_neg c6_6, if_pos c7_7]; rfl) | (simp only [f_X0_carValue, if_neg c0_0, if_neg c1_1, if_neg c2_2, if_neg c3_3, if_neg c4_4, if_neg c5_5, if_neg c6_6, if_pos c7_7]; done))
                · by_cases c8_8 : wt = 8
                  · refine lv_tableIn (off := 103) (tgt := 104) hx hb dX0_carValue_1 (by rw [c8_8]; decide) (by rw [c8_8]; decide) (by rw [c8_8]; rfl) (by decide) ?_
                    refine lv_aload_n hx hb dX0_carValue_104 rfl (lv_at hl 0 rfl) ?_
                    refine get_ca_0 C hK X 0 rfl fl_X0_12 dX0_carValue_105 ?_
                    refine lv_aload_n hx hb dX0_carValue_108 rfl (lv_at hl 0 rfl) ?_
                    refine get_ca_8 C hK X 0 rfl fl_X0_58 dX0_carValue_109 ?_
                    refine s_cV0i C hK hA X (c_X1_isActive l D ty (ad 1) (ad 2) (ad 11) (ad 3) (ad 4) (ad 5) (ad 6) (ad 7) (ad 8) (ad 9) (ad 10) (u.1 1) (u.1 2) (u.1 3) (u.1 4) (u.1 5) ((u.1 0) 3)) [1, 2, 3, 4, 5, 6] (pk_c rfl (pk_c rfl (pk_c rfl (pk_c rfl (pk_c rfl (pk_c rfl pk_n)))))) rfl ml_X1_isActive wm_X0_138 (q0 := 0) rfl rfl rfl ⟨Nat.le_of_ble_eq_true rfl, Nat.le_of_ble_eq_true rfl⟩ ⟨Nat.zero_le _, Nat.zero_le _⟩ hl.1 rfl (Nat.le_of_ble_eq_true rfl) dX0_carValue_112 (fun H locs X => ?_)
                    refine s_cN0i C hK hA X (c_X6_asNumber l D ty (f_X1_isActive (u.1 1) (u.1 2) (u.1 3) (u.1 4) (u.1 5) ((u.1 0) 3))) [] pk_n rfl sl_X6_asNumber nw_X0_142 ⟨Nat.le_of_ble_eq_true rfl, Nat.le_of_ble_eq_true rfl⟩ ⟨Nat.zero_le _, Nat.zero_le _⟩ hl.1 rfl (Nat.le_of_ble_eq_true rfl) dX0_carValue_115 (fun H locs X => ?_)
                    exact hret _ _ _ _ _ _ dX0_carValue_118 X rfl (by first | (rw [f_X0_carValue, if_neg c0_0, if_neg c1_1, if_neg c2_2, if_neg c3_3, if_neg c4_4, if_neg c5_5, if_neg c6_6, if_neg c7_7, if_pos c8_8]; done) | (rw [f_X0_carValue, if_neg c0_0, if_neg c1_1, if_neg c2_2, if_neg c3_3, if_neg c4_4, if_neg c5_5, if_neg c6_6, if_neg c7_7, if_pos c8_8]; rfl) | (simp only [f_X0_carValue, if_neg c0_0, if_neg c1_1, if_neg c2_2, if_neg c3_3, if_neg c4_4, if_neg c5_5, if_neg c6_6, if_neg c7_7, if_pos c8_8]; done))
                  · refine lv_tableOut (tgt := 119) hx hb dX0_carValue_1 (sw_out9 c0_0 c1_1 c2_2 c3_3 c4_4 c5_5 c6_6 c7_7 c8_8) (by decide) ?_
                    refine lv_aload_n hx hb dX0_carValue_119 rfl (lv_at hl 0 rfl) ?_
                    refine get_ca_0 C hK X 0 rfl fl_X0_12 dX0_carValue_120 ?_
                    refine get_ct_2 C hK X 1 rfl fl_X0_146 dX0_carValue_123 ?_
                    refine s_cN0i C hK hA X (c_X6_asNumber l D ty ((u.1 1) 4)) [] pk_n rfl sl_X6_asNumber nw_X0_142 ⟨Nat.le_of_ble_eq_true rfl, Nat.le_of_ble_eq_true rfl⟩ ⟨Nat.zero_le _, Nat.zero_le _⟩ hl.1 rfl (Nat.le_of_ble_eq_true rfl) dX0_carValue_126 (fun H locs X => ?_)
                    exact hret _ _ _ _ _ _ dX0_carValue_129 X rfl (by first | (rw [f_X0_carValue, if_neg c0_0, if_neg c1_1, if_neg c2_2, if_neg c3_3, if_neg c4_4, if_neg c5_5, if_neg c6_6, if_neg c7_7, if_neg c8_8]; done) | (rw [f_X0_carValue, if_neg c0_0, if_neg c1_1, if_neg c2_2, if_neg c3_3, if_neg c4_4, if_neg c5_5, if_neg c6_6, if_neg c7_7, if_neg c8_8]; rfl) | (simp only [f_X0_carValue, if_neg c0_0, if_neg c1_1, if_neg c2_2, if_neg c3_3, if_neg c4_4, if_neg c5_5, if_neg c6_6, if_neg c7_7, if_neg c8_8]; done))
def f_X0_wheelValue_0 (u : CarS) (wt : Int32) : Int32 := (if wt = 0 then ((u.1 2) 0) else (if wt = 1 then ((u.1 2) 1) else (if wt = 2 then ((u.1 2) 2) else (if wt = 3 then ((u.1 2) 3) else (if wt = 4 then ((u.1 2) 4) else (if wt = 5 then ((u.1 2) 5) else (if wt = 6 then ((u.1 2) 6) else (if wt = 7 then (f_X6_asNumber ((u.1 2) 7)) else (if wt = 8 then ((u.1 2) 8) else (if wt = 9 then (f_X5_slip (u.1 2) ((u.1 0) 0)) else (if wt = 10 then ((u.1 2) 12) else ((u.1 2) 11))))))))))))
set_option maxHeartbeats 4000000 in
set_option maxRecDepth 100000 in
theorem c_X0_wheelValue_0 (l : Launch) (D : va_G) (ty : Nat → ClassId) (ad : Nat → Nat) (u : CarS) (wt : Int32) : MC l D ty yX0_wheelValue cX0_wheelValue 4 (some .int) 2 [.ref (ad 0), .int 0, .int wt] [((ad 0), caE (u.1 0) (ad 1) (ad 2) (ad 11) (ad 15) (ad 19)), ((ad 2), waE ty (ad 3) (ad 4) (ad 5) (ad 6)), ((ad 3), whE (u.1 2) (ad 7))] (some (.int (f_X0_wheelValue_0 u wt))) [((ad 0), caE (u.1 0) (ad 1) (ad 2) (ad 11) (ad 15) (ad 19)), ((ad 2), waE ty (ad 3) (ad 4) (ad 5) (ad 6)), ((ad 3), whE (u.1 2) (ad 7))] := by
  refine mc_i (by decide +kernel) (Nat.le_of_ble_eq_true rfl) ?_
  intro p e s m args below meth c A Q ls C hK hA X hret hl
  have hx := C.1
  have hb := C.2.1
  have hl : lv_has ls 4 [(0, .ref (ad 0)), (1, .int 0), (2, .int wt)] := hl
  have X : Wd D A s.heap [((ad 0), caE (u.1 0) (ad 1) (ad 2) (ad 11) (ad 15) (ad 19)), ((ad 2), waE ty (ad 3) (ad 4) (ad 5) (ad 6)), ((ad 3), whE (u.1 2) (ad 7))] s.heap [] := X
  refine lv_aload_n hx hb dX0_wheelValue_0 rfl (lv_at hl 0 rfl) ?_
  refine get_ca_1 C hK X 0 rfl fl_X0_22 dX0_wheelValue_1 ?_
  refine lv_iload_n hx hb dX0_wheelValue_4 rfl (lv_at hl 1 rfl) ?_
  refine s_aald (t0 := 2) (b := (ad 3)) C hK X 1 rfl rfl (vp_in_nI (n := 0) (by decide) (by decide)) rfl dX0_wheelValue_5 ?_
  refine lv_astore_n (lv' := [(3, .ref (ad 3)), (0, .ref (ad 0)), (1, .int 0), (2, .int wt)]) hx hb dX0_wheelValue_6 rfl hl (by decide) rfl (fun ls hl => ?_)
  refine lv_iload_n hx hb dX0_wheelValue_7 rfl (lv_at hl 3 rfl) ?_
  by_cases c0_0 : wt = 0
  · refine lv_tableIn (off := 60) (tgt := 68) hx hb dX0_wheelValue_8 (by rw [c0_0]; decide) (by rw [c0_0]; decide) (by rw [c0_0]; rfl) (by decide) ?_
    refine lv_aload_n hx hb dX0_wheelValue_68 rfl (lv_at hl 0 rfl) ?_
    refine get_wh_0 C hK X 2 rfl fl_X0_150 dX0_wheelValue_69 ?_
    exact hret _ _ _ _ _ _ dX0_wheelValue_72 X rfl (by first | (rw [f_X0_wheelValue_0, if_pos c0_0]; done) | (rw [f_X0_wheelValue_0, if_pos c0_0]; rfl) | (simp only [f_X0_wheelValue_0, if_pos c0_0]; done))
  · by_cases c1_1 : wt = 1
    · refine lv_tableIn (off := 65) (tgt := 73) hx hb dX0_wheelValue_8 (by rw [c1_1]; decide) (by rw [c1_1]; decide) (by rw [c1_1]; rfl) (by decide) ?_
      refine lv_aload_n hx hb dX0_wheelValue_73 rfl (lv_at hl 0 rfl) ?_
      refine get_wh_1 C hK X 2 rfl fl_X0_151 dX0_wheelValue_74 ?_
      exact hret _ _ _ _ _ _ dX0_wheelValue_77 X rfl (by first | (rw [f_X0_wheelValue_0, if_neg c0_0, if_pos c1_1]; done) | (rw [f_X0_wheelValue_0, if_neg c0_0, if_pos c1_1]; rfl) | (simp only [f_X0_wheelValue_0, if_neg c0_0, if_pos c1_1]; done))
    · by_cases c2_2 : wt = 2
      · refine lv_tableIn (off := 70) (tgt := 78) hx hb dX0_wheelValue_8 (by rw [c2_2]; decide) (by rw [c2_2]; decide) (by rw [c2_2]; rfl) (by decide) ?_
        refine lv_aload_n hx hb dX0_wheelValue_78 rfl (lv_at hl 0 rfl) ?_
        refine get_wh_2 C hK X 2 rfl fl_X0_154 dX0_wheelValue_79 ?_
        exact hret _ _ _ _ _ _ dX0_wheelValue_82 X rfl (by first | (rw [f_X0_wheelValue_0, if_neg c0_0, if_neg c1_1, if_pos c2_2]; done) | (rw [f_X0_wheelValue_0, if_neg c0_0, if_neg c1_1, if_pos c2_2]; rfl) | (simp only [f_X0_wheelValue_0, if_neg c0_0, if_neg c1_1, if_pos c2_2]; done))
      · by_cases c3_3 : wt = 3
        · refine lv_tableIn (off := 75) (tgt := 83) hx hb dX0_wheelValue_8 (by rw [c3_3]; decide) (by rw [c3_3]; decide) (by rw [c3_3]; rfl) (by decide) ?_
          refine lv_aload_n hx hb dX0_wheelValue_83 rfl (lv_at hl 0 rfl) ?_
          refine get_wh_3 C hK X 2 rfl fl_X0_157 dX0_wheelValue_84 ?_
          exact hret _ _ _ _ _ _ dX0_wheelValue_87 X rfl (by first | (rw [f_X0_wheelValue_0, if_neg c0_0, if_neg c1_1, if_neg c2_2, if_pos c3_3]; done) | (rw [f_X0_wheelValue_0, if_neg c0_0, if_neg c1_1, if_neg c2_2, if_pos c3_3]; rfl) | (simp only [f_X0_wheelValue_0, if_neg c0_0, if_neg c1_1, if_neg c2_2, if_pos c3_3]; done))
        · by_cases c4_4 : wt = 4
          · refine lv_tableIn (off := 80) (tgt := 88) hx hb dX0_wheelValue_8 (by rw [c4_4]; decide) (by rw [c4_4]; decide) (by rw [c4_4]; rfl) (by decide) ?_
            refine lv_aload_n hx hb dX0_wheelValue_88 rfl (lv_at hl 0 rfl) ?_
            refine get_wh_4 C hK X 2 rfl fl_X0_160 dX0_wheelValue_89 ?_
            exact hret _ _ _ _ _ _ dX0_wheelValue_92 X rfl (by first | (rw [f_X0_wheelValue_0, if_neg c0_0, if_neg c1_1, if_neg c2_2, if_neg c3_3, if_pos c4_4]; done) | (rw [f_X0_wheelValue_0, if_neg c0_0, if_neg c1_1, if_neg c2_2, if_neg c3_3, if_pos c4_4]; rfl) | (simp only [f_X0_wheelValue_0, if_neg c0_0, if_neg c1_1, if_neg c2_2, if_neg c3_3, if_pos c4_4]; done))
          · by_cases c5_5 : wt = 5
            · refine lv_tableIn (off := 85) (tgt := 93) hx hb dX0_wheelValue_8 (by rw [c5_5]; decide) (by rw [c5_5]; decide) (by rw [c5_5]; rfl) (by decide) ?_
              refine lv_aload_n hx hb dX0_wheelValue_93 rfl (lv_at hl 0 rfl) ?_
              refine get_wh_5 C hK X 2 rfl fl_X0_163 dX0_wheelValue_94 ?_
              exact hret _ _ _ _ _ _ dX0_wheelValue_97 X rfl (by first | (rw [f_X0_wheelValue_0, if_neg c0_0, if_neg c1_1, if_neg c2_2, if_neg c3_3, if_neg c4_4, if_pos c5_5]; done) | (rw [f_X0_wheelValue_0, if_neg c0_0, if_neg c1_1, if_neg c2_2, if_neg c3_3, if_neg c4_4, if_pos c5_5]; rfl) | (simp only [f_X0_wheelValue_0, if_neg c0_0, if_neg c1_1, if_neg c2_2, if_neg c3_3, if_neg c4_4, if_pos c5_5]; done))
            · by_cases c6_6 : wt = 6
              · refine lv_tableIn (off := 90) (tgt := 98) hx hb dX0_wheelValue_8 (by rw [c6_6]; decide) (by rw [c6_6]; decide) (by rw [c6_6]; rfl) (by decide) ?_
                refine lv_aload_n hx hb dX0_wheelValue_98 rfl (lv_at hl 0 rfl) ?_
                refine get_wh_6 C hK X 2 rfl fl_X0_166 dX0_wheelValue_99 ?_
                exact hret _ _ _ _ _ _ dX0_wheelValue_102 X rfl (by first | (rw [f_X0_wheelValue_0, if_neg c0_0, if_neg c1_1, if_neg c2_2, if_neg c3_3, if_neg c4_4, if_neg c5_5, if_pos c6_6]; done) | (rw [f_X0_wheelValue_0, if_neg c0_0, if_neg c1_1, if_neg c2_2, if_neg c3_3, if_neg c4_4, if_neg c5_5, if_pos c6_6]; rfl) | (simp only [f_X0_wheelValue_0, if_neg c0_0, if_neg c1_1, if_neg c2_2, if_neg c3_3, if_neg c4_4, if_neg c5_5, if_pos c6_6]; done))
              · by_cases c7_7 : wt = 7
                · refine lv_tableIn (off := 95) (tgt := 103) hx hb dX0_wheelValue_8 (by rw [c7_7]; decide) (by rw [c7_7]; decide) (by rw [c7_7]; rfl) (by decide) ?_
                  refine lv_aload_n hx hb dX0_wheelValue_103 rfl (lv_at hl 0 rfl) ?_
                  refine get_wh_8 C hK X 2 rfl fl_X0_169 dX0_wheelValue_104 ?_
                  refine s_cN0i C hK hA X (c_X6_asNumber l D ty ((u.1 2) 7)) [] pk_n rfl sl_X6_asNumber nw_X0_142 ⟨Nat.le_of_ble_eq_true rfl, Nat.le_of_ble_eq_true rfl⟩ ⟨Nat.zero_le _, Nat.zero_le _⟩ hl.1 rfl (Nat.le_of_ble_eq_true rfl) dX0_wheelValue_107 (fun H locs X => ?_)
                  exact hret _ _ _ _ _ _ dX0_wheelValue_110 X rfl (by first | (rw [f_X0_wheelValue_0, if_neg c0_0, if_neg c1_1, if_neg c2_2, if_neg c3_3, if_neg c4_4, if_neg c5_5, if_neg c6_6, if_pos c7_7]; done) | (rw [f_X0_wheelValue_0, if_neg c0_0, if_neg c1_1, if_neg c2_2, if_neg c3_3, if_neg c4_4, if_neg c5_5, if_neg c6_6, if_pos c7_7]; rfl) | (simp only [f_X0_wheelValue_0, if_neg c0_0, if_neg c1_1, if_neg c2_2, if_neg c3_3, if_neg c4_4, if_neg c5_5, if_neg c6_6, if_pos c7_7]; done))
                · by_cases c8_8 : wt = 8
                  · refine lv_tableIn (off := 103) (tgt := 111) hx hb dX0_wheelValue_8 (by rw [c8_8]; decide) (by rw [c8_8]; decide) (by rw [c8_8]; rfl) (by decide) ?_
                    refine lv_aload_n hx hb dX0_wheelValue_111 rfl (lv_at hl 0 rfl) ?_
                    refine get_wh_7 C hK X 2 rfl fl_X0_172 dX0_wheelValue_112 ?_
                    exact hret _ _ _ _ _ _ dX0_wheelValue_115 X rfl (by first | (rw [f_X0_wheelValue_0, if_neg c0_0, if_neg c1_1, if_neg c2_2, if_neg c3_3, if_neg c4_4, if_neg c5_5, if_neg c6_6, if_neg c7_7, if_pos c8_8]; done) | (rw [f_X0_wheelValue_0, if_neg c0_0, if_neg c1_1, if_neg c2_2, if_neg c3_3, if_neg c4_4, if_neg c5_5, if_neg c6_6, if_neg c7_7, if_pos c8_8]; rfl) | (simp only [f_X0_wheelValue_0, if_neg c0_0, if_neg c1_1, if_neg c2_2, if_neg c3_3, if_neg c4_4, if_neg c5_5, if_neg c6_6, if_neg c7_7, if_pos c8_8]; done))
                  · by_cases c9_9 : wt = 9
                    · refine lv_tableIn (off := 108) (tgt := 116) hx hb dX0_wheelValue_8 (by rw [c9_9]; decide) (by rw [c9_9]; decide) (by rw [c9_9]; rfl) (by decide) ?_
                      refine lv_aload_n hx hb dX0_wheelValue_116 rfl (lv_at hl 0 rfl) ?_
                      refine lv_aload_n hx hb dX0_wheelValue_117 rfl (lv_at hl 1 rfl) ?_
                      refine get_ca_5 C hK X 0 rfl fl_X0_48 dX0_wheelValue_118 ?_
                      refine s_cV0i C hK hA X (c_X5_slip l D ty (ad 3) (ad 7) (u.1 2) ((u.1 0) 0)) [2] (pk_c rfl pk_n) rfl ml_X5_slip wm_X0_120 (q0 := 0) rfl rfl rfl ⟨Nat.le_of_ble_eq_true rfl, Nat.le_of_ble_eq_true rfl⟩ ⟨Nat.zero_le _, Nat.zero_le _⟩ hl.1 rfl (Nat.le_of_ble_eq_true rfl) dX0_wheelValue_121 (fun H locs X => ?_)
                      exact hret _ _ _ _ _ _ dX0_wheelValue_124 X rfl (by first | (rw [f_X0_wheelValue_0, if_neg c0_0, if_neg c1_1, if_neg c2_2, if_neg c3_3, if_neg c4_4, if_neg c5_5, if_neg c6_6, if_neg c7_7, if_neg c8_8, if_pos c9_9]; done) | (rw [f_X0_wheelValue_0, if_neg c0_0, if_neg c1_1, if_neg c2_2, if_neg c3_3, if_neg c4_4, if_neg c5_5, if_neg c6_6, if_neg c7_7, if_neg c8_8, if_pos c9_9]; rfl) | (simp only [f_X0_wheelValue_0, if_neg c0_0, if_neg c1_1, if_neg c2_2, if_neg c3_3, if_neg c4_4, if_neg c5_5, if_neg c6_6, if_neg c7_7, if_neg c8_8, if_pos c9_9]; done))
                    · by_cases c10_10 : wt = 10
                      · refine lv_tableIn (off := 117) (tgt := 125) hx hb dX0_wheelValue_8 (by rw [c10_10]; decide) (by rw [c10_10]; decide) (by rw [c10_10]; rfl) (by decide) ?_
                        refine lv_aload_n hx hb dX0_wheelValue_125 rfl (lv_at hl 0 rfl) ?_
                        refine get_wh_13 C hK X 2 rfl fl_X0_175 dX0_wheelValue_126 ?_
                        exact hret _ _ _ _ _ _ dX0_wheelValue_129 X rfl (by first | (rw [f_X0_wheelValue_0, if_neg c0_0, if_neg c1_1, if_neg c2_2, if_neg c3_3, if_neg c4_4, if_neg c5_5, if_neg c6_6, if_neg c7_7, if_neg c8_8, if_neg c9_9, if_pos c10_10]; done) | (rw [f_X0_wheelValue_0, if_neg c0_0, if_neg c1_1, if_neg c2_2, if_neg c3_3, if_neg c4_4, if_neg c5_5, if_neg c6_6, if_neg c7_7, if_neg c8_8, if_neg c9_9, if_pos c10_10]; rfl) | (simp only [f_X0_wheelValue_0, if_neg c0_0, if_neg c1_1, if_neg c2_2, if_neg c3_3, if_neg c4_4, if_neg c5_5, if_neg c6_6, if_neg c7_7, if_neg c8_8, if_neg c9_9, if_pos c10_10]; done))
                      · refine lv_tableOut (tgt := 130) hx hb dX0_wheelValue_8 (sw_out11 c0_0 c1_1 c2_2 c3_3 c4_4 c5_5 c6_6 c7_7 c8_8 c9_9 c10_10) (by decide) ?_
                        refine lv_aload_n hx hb dX0_wheelValue_130 rfl (lv_at hl 0 rfl) ?_
                        refine get_wh_12 C hK X 2 rfl fl_X0_178 dX0_wheelValue_131 ?_
                        exact hret _ _ _ _ _ _ dX0_wheelValue_134 X rfl (by first | (rw [f_X0_wheelValue_0, if_neg c0_0, if_neg c1_1, if_neg c2_2, if_neg c3_3, if_neg c4_4, if_neg c5_5, if_neg c6_6, if_neg c7_7, if_neg c8_8, if_neg c9_9, if_neg c10_10]; done) | (rw [f_X0_wheelValue_0, if_neg c0_0, if_neg c1_1, if_neg c2_2, if_neg c3_3, if_neg c4_4, if_neg c5_5, if_neg c6_6, if_neg c7_7, if_neg c8_8, if_neg c9_9, if_neg c10_10]; rfl) | (simp only [f_X0_wheelValue_0, if_neg c0_0, if_neg c1_1, if_neg c2_2, if_neg c3_3, if_neg c4_4, if_neg c5_5, if_neg c6_6, if_neg c7_7, if_neg c8_8, if_neg c9_9, if_neg c10_10]; done))
def f_X0_wheelValue_1 (u : CarS) (wt : Int32) : Int32 := (if wt = 0 then ((u.1 3) 0) else (if wt = 1 then ((u.1 3) 1) else (if wt = 2 then ((u.1 3) 2) else (if wt = 3 then ((u.1 3) 3) else (if wt = 4 then ((u.1 3) 4) else (if wt = 5 then ((u.1 3) 5) else (if wt = 6 then ((u.1 3) 6) else (if wt = 7 then (f_X6_asNumber ((u.1 3) 7)) else (if wt = 8 then ((u.1 3) 8) else (if wt = 9 then (f_X5_slip (u.1 3) ((u.1 0) 0)) else (if wt = 10 then ((u.1 3) 12) else ((u.1 3) 11))))))))))))
set_option maxHeartbeats 4000000 in
set_option maxRecDepth 100000 in
theorem c_X0_wheelValue_1 (l : Launch) (D : va_G) (ty : Nat → ClassId) (ad : Nat → Nat) (u : CarS) (wt : Int32) : MC l D ty yX0_wheelValue cX0_wheelValue 4 (some .int) 2 [.ref (ad 0), .int 1, .int wt] [((ad 0), caE (u.1 0) (ad 1) (ad 2) (ad 11) (ad 15) (ad 19)), ((ad 2), waE ty (ad 3) (ad 4) (ad 5) (ad 6)), ((ad 4), whE (u.1 3) (ad 8))] (some (.int (f_X0_wheelValue_1 u wt))) [((ad 0), caE (u.1 0) (ad 1) (ad 2) (ad 11) (ad 15) (ad 19)), ((ad 2), waE ty (ad 3) (ad 4) (ad 5) (ad 6)), ((ad 4), whE (u.1 3) (ad 8))] := by
  refine mc_i (by decide +kernel) (Nat.le_of_ble_eq_true rfl) ?_
  intro p e s m args below meth c A Q ls C hK hA X hret hl
  have hx := C.1
  have hb := C.2.1
  have hl : lv_has ls 4 [(0, .ref (ad 0)), (1, .int 1), (2, .int wt)] := hl
  have X : Wd D A s.heap [((ad 0), caE (u.1 0) (ad 1) (ad 2) (ad 11) (ad 15) (ad 19)), ((ad 2), waE ty (ad 3) (ad 4) (ad 5) (ad 6)), ((ad 4), whE (u.1 3) (ad 8))] s.heap [] := X
  refine lv_aload_n hx hb dX0_wheelValue_0 rfl (lv_at hl 0 rfl) ?_
  refine get_ca_1 C hK X 0 rfl fl_X0_22 dX0_wheelValue_1 ?_
  refine lv_iload_n hx hb dX0_wheelValue_4 rfl (lv_at hl 1 rfl) ?_
  refine s_aald (t0 := 2) (b := (ad 4)) C hK X 1 rfl rfl (vp_in_nI (n := 1) (by decide) (by decide)) rfl dX0_wheelValue_5 ?_
  refine lv_astore_n (lv' := [(3, .ref (ad 4)), (0, .ref (ad 0)), (1, .int 1), (2, .int wt)]) hx hb dX0_wheelValue_6 rfl hl (by decide) rfl (fun ls hl => ?_)
  refine lv_iload_n hx hb dX0_wheelValue_7 rfl (lv_at hl 3 rfl) ?_
  by_cases c0_0 : wt = 0
  · refine lv_tableIn (off := 60) (tgt := 68) hx hb dX0_wheelValue_8 (by rw [c0_0]; decide) (by rw [c0_0]; decide) (by rw [c0_0]; rfl) (by decide) ?_
    refine lv_aload_n hx hb dX0_wheelValue_68 rfl (lv_at hl 0 rfl) ?_
    refine get_wh_0 C hK X 2 rfl fl_X0_150 dX0_wheelValue_69 ?_
    exact hret _ _ _ _ _ _ dX0_wheelValue_72 X rfl (by first | (rw [f_X0_wheelValue_1, if_pos c0_0]; done) | (rw [f_X0_wheelValue_1, if_pos c0_0]; rfl) | (simp only [f_X0_wheelValue_1, if_pos c0_0]; done))
  · by_cases c1_1 : wt = 1
    · refine lv_tableIn (off := 65) (tgt := 73) hx hb dX0_wheelValue_8 (by rw [c1_1]; decide) (by rw [c1_1]; decide) (by rw [c1_1]; rfl) (by decide) ?_
      refine lv_aload_n hx hb dX0_wheelValue_73 rfl (lv_at hl 0 rfl) ?_
      refine get_wh_1 C hK X 2 rfl fl_X0_151 dX0_wheelValue_74 ?_
      exact hret _ _ _ _ _ _ dX0_wheelValue_77 X rfl (by first | (rw [f_X0_wheelValue_1, if_neg c0_0, if_pos c1_1]; done) | (rw [f_X0_wheelValue_1, if_neg c0_0, if_pos c1_1]; rfl) | (simp only [f_X0_wheelValue_1, if_neg c0_0, if_pos c1_1]; done))
    · by_cases c2_2 : wt = 2
      · refine lv_tableIn (off := 70) (tgt := 78) hx hb dX0_wheelValue_8 (by rw [c2_2]; decide) (by rw [c2_2]; decide) (by rw [c2_2]; rfl) (by decide) ?_
        refine lv_aload_n hx hb dX0_wheelValue_78 rfl (lv_at hl 0 rfl) ?_
        refine get_wh_2 C hK X 2 rfl fl_X0_154 dX0_wheelValue_79 ?_
        exact hret _ _ _ _ _ _ dX0_wheelValue_82 X rfl (by first | (rw [f_X0_wheelValue_1, if_neg c0_0, if_neg c1_1, if_pos c2_2]; done) | (rw [f_X0_wheelValue_1, if_neg c0_0, if_neg c1_1, if_pos c2_2]; rfl) | (simp only [f_X0_wheelValue_1, if_neg c0_0, if_neg c1_1, if_pos c2_2]; done))
      · by_cases c3_3 : wt = 3
        · refine lv_tableIn (off := 75) (tgt := 83) hx hb dX0_wheelValue_8 (by rw [c3_3]; decide) (by rw [c3_3]; decide) (by rw [c3_3]; rfl) (by decide) ?_
          refine lv_aload_n hx hb dX0_wheelValue_83 rfl (lv_at hl 0 rfl) ?_
          refine get_wh_3 C hK X 2 rfl fl_X0_157 dX0_wheelValue_84 ?_
          exact hret _ _ _ _ _ _ dX0_wheelValue_87 X rfl (by first | (rw [f_X0_wheelValue_1, if_neg c0_0, if_neg c1_1, if_neg c2_2, if_pos c3_3]; done) | (rw [f_X0_wheelValue_1, if_neg c0_0, if_neg c1_1, if_neg c2_2, if_pos c3_3]; rfl) | (simp only [f_X0_wheelValue_1, if_neg c0_0, if_neg c1_1, if_neg c2_2, if_pos c3_3]; done))
        · by_cases c4_4 : wt = 4
          · refine lv_tableIn (off := 80) (tgt := 88) hx hb dX0_wheelValue_8 (by rw [c4_4]; decide) (by rw [c4_4]; decide) (by rw [c4_4]; rfl) (by decide) ?_
            refine lv_aload_n hx hb dX0_wheelValue_88 rfl (lv_at hl 0 rfl) ?_
            refine get_wh_4 C hK X 2 rfl fl_X0_160 dX0_wheelValue_89 ?_
            exact hret _ _ _ _ _ _ dX0_wheelValue_92 X rfl (by first | (rw [f_X0_wheelValue_1, if_neg c0_0, if_neg c1_1, if_neg c2_2, if_neg c3_3, if_pos c4_4]; done) | (rw [f_X0_wheelValue_1, if_neg c0_0, if_neg c1_1, if_neg c2_2, if_neg c3_3, if_pos c4_4]; rfl) | (simp only [f_X0_wheelValue_1, if_neg c0_0, if_neg c1_1, if_neg c2_2, if_neg c3_3, if_pos c4_4]; done))
          · by_cases c5_5 : wt = 5
            · refine lv_tableIn (off := 85) (tgt := 93) hx hb dX0_wheelValue_8 (by rw [c5_5]; decide) (by rw [c5_5]; decide) (by rw [c5_5]; rfl) (by decide) ?_
              refine lv_aload_n hx hb dX0_wheelValue_93 rfl (lv_at hl 0 rfl) ?_
              refine get_wh_5 C hK X 2 rfl fl_X0_163 dX0_wheelValue_94 ?_
              exact hret _ _ _ _ _ _ dX0_wheelValue_97 X rfl (by first | (rw [f_X0_wheelValue_1, if_neg c0_0, if_neg c1_1, if_neg c2_2, if_neg c3_3, if_neg c4_4, if_pos c5_5]; done) | (rw [f_X0_wheelValue_1, if_neg c0_0, if_neg c1_1, if_neg c2_2, if_neg c3_3, if_neg c4_4, if_pos c5_5]; rfl) | (simp only [f_X0_wheelValue_1, if_neg c0_0, if_neg c1_1, if_neg c2_2, if_neg c3_3, if_neg c4_4, if_pos c5_5]; done))
            · by_cases c6_6 : wt = 6
              · refine lv_tableIn (off := 90) (tgt := 98) hx hb dX0_wheelValue_8 (by rw [c6_6]; decide) (by rw [c6_6]; decide) (by rw [c6_6]; rfl) (by decide) ?_
                refine lv_aload_n hx hb dX0_wheelValue_98 rfl (lv_at hl 0 rfl) ?_
                refine get_wh_6 C hK X 2 rfl fl_X0_166 dX0_wheelValue_99 ?_
                exact hret _ _ _ _ _ _ dX0_wheelValue_102 X rfl (by first | (rw [f_X0_wheelValue_1, if_neg c0_0, if_neg c1_1, if_neg c2_2, if_neg c3_3, if_neg c4_4, if_neg c5_5, if_pos c6_6]; done) | (rw [f_X0_wheelValue_1, if_neg c0_0, if_neg c1_1, if_neg c2_2, if_neg c3_3, if_neg c4_4, if_neg c5_5, if_pos c6_6]; rfl) | (simp only [f_X0_wheelValue_1, if_neg c0_0, if_neg c1_1, if_neg c2_2, if_neg c3_3, if_neg c4_4, if_neg c5_5, if_pos c6_6]; done))
              · by_cases c7_7 : wt = 7
                · refine lv_tableIn (off := 95) (tgt := 103) hx hb dX0_wheelValue_8 (by rw [c7_7]; decide) (by rw [c7_7]; decide) (by rw [c7_7]; rfl) (by decide) ?_
                  refine lv_aload_n hx hb dX0_wheelValue_103 rfl (lv_at hl 0 rfl) ?_
                  refine get_wh_8 C hK X 2 rfl fl_X0_169 dX0_wheelValue_104 ?_
                  refine s_cN0i C hK hA X (c_X6_asNumber l D ty ((u.1 3) 7)) [] pk_n rfl sl_X6_asNumber nw_X0_142 ⟨Nat.le_of_ble_eq_true rfl, Nat.le_of_ble_eq_true rfl⟩ ⟨Nat.zero_le _, Nat.zero_le _⟩ hl.1 rfl (Nat.le_of_ble_eq_true rfl) dX0_wheelValue_107 (fun H locs X => ?_)
                  exact hret _ _ _ _ _ _ dX0_wheelValue_110 X rfl (by first | (rw [f_X0_wheelValue_1, if_neg c0_0, if_neg c1_1, if_neg c2_2, if_neg c3_3, if_neg c4_4, if_neg c5_5, if_neg c6_6, if_pos c7_7]; done) | (rw [f_X0_wheelValue_1, if_neg c0_0, if_neg c1_1, if_neg c2_2, if_neg c3_3, if_neg c4_4, if_neg c5_5, if_neg c6_6, if_pos c7_7]; rfl) | (simp only [f_X0_wheelValue_1, if_neg c0_0, if_neg c1_1, if_neg c2_2, if_neg c3_3, if_neg c4_4, if_neg c5_5, if_neg c6_6, if_pos c7_7]; done))
                · by_cases c8_8 : wt = 8
                  · refine lv_tableIn (off := 103) (tgt := 111) hx hb dX0_wheelValue_8 (by rw [c8_8]; decide) (by rw [c8_8]; decide) (by rw [c8_8]; rfl) (by decide) ?_
                    refine lv_aload_n hx hb dX0_wheelValue_111 rfl (lv_at hl 0 rfl) ?_
                    refine get_wh_7 C hK X 2 rfl fl_X0_172 dX0_wheelValue_112 ?_
                    exact hret _ _ _ _ _ _ dX0_wheelValue_115 X rfl (by first | (rw [f_X0_wheelValue_1, if_neg c0_0, if_neg c1_1, if_neg c2_2, if_neg c3_3, if_neg c4_4, if_neg c5_5, if_neg c6_6, if_neg c7_7, if_pos c8_8]; done) | (rw [f_X0_wheelValue_1, if_neg c0_0, if_neg c1_1, if_neg c2_2, if_neg c3_3, if_neg c4_4, if_neg c5_5, if_neg c6_6, if_neg c7_7, if_pos c8_8]; rfl) | (simp only [f_X0_wheelValue_1, if_neg c0_0, if_neg c1_1, if_neg c2_2, if_neg c3_3, if_neg c4_4, if_neg c5_5, if_neg c6_6, if_neg c7_7, if_pos c8_8]; done))
                  · by_cases c9_9 : wt = 9
                    · refine lv_tableIn (off := 108) (tgt := 116) hx hb dX0_wheelValue_8 (by rw [c9_9]; decide) (by rw [c9_9]; decide) (by rw [c9_9]; rfl) (by decide) ?_
                      refine lv_aload_n hx hb dX0_wheelValue_116 rfl (lv_at hl 0 rfl) ?_
                      refine lv_aload_n hx hb dX0_wheelValue_117 rfl (lv_at hl 1 rfl) ?_
                      refine get_ca_5 C hK X 0 rfl fl_X0_48 dX0_wheelValue_118 ?_
                      refine s_cV0i C hK hA X (c_X5_slip l D ty (ad 4) (ad 8) (u.1 3) ((u.1 0) 0)) [2] (pk_c rfl pk_n) rfl ml_X5_slip wm_X0_120 (q0 := 0) rfl rfl rfl ⟨Nat.le_of_ble_eq_true rfl, Nat.le_of_ble_eq_true rfl⟩ ⟨Nat.zero_le _, Nat.zero_le _⟩ hl.1 rfl (Nat.le_of_ble_eq_true rfl) dX0_wheelValue_121 (fun H locs X => ?_)
                      exact hret _ _ _ _ _ _ dX0_wheelValue_124 X rfl (by first | (rw [f_X0_wheelValue_1, if_neg c0_0, if_neg c1_1, if_neg c2_2, if_neg c3_3, if_neg c4_4, if_neg c5_5, if_neg c6_6, if_neg c7_7, if_neg c8_8, if_pos c9_9]; done) | (rw [f_X0_wheelValue_1, if_neg c0_0, if_neg c1_1, if_neg c2_2, if_neg c3_3, if_neg c4_4, if_neg c5_5, if_neg c6_6, if_neg c7_7, if_neg c8_8, if_pos c9_9]; rfl) | (simp only [f_X0_wheelValue_1, if_neg c0_0, if_neg c1_1, if_neg c2_2, if_neg c3_3, if_neg c4_4, if_neg c5_5, if_neg c6_6, if_neg c7_7, if_neg c8_8, if_pos c9_9]; done))
                    · by_cases c10_10 : wt = 10
                      · refine lv_tableIn (off := 117) (tgt := 125) hx hb dX0_wheelValue_8 (by rw [c10_10]; decide) (by rw [c10_10]; decide) (by rw [c10_10]; rfl) (by decide) ?_
                        refine lv_aload_n hx hb dX0_wheelValue_125 rfl (lv_at hl 0 rfl) ?_
                        refine get_wh_13 C hK X 2 rfl fl_X0_175 dX0_wheelValue_126 ?_
                        exact hret _ _ _ _ _ _ dX0_wheelValue_129 X rfl (by first | (rw [f_X0_wheelValue_1, if_neg c0_0, if_neg c1_1, if_neg c2_2, if_neg c3_3, if_neg c4_4, if_neg c5_5, if_neg c6_6, if_neg c7_7, if_neg c8_8, if_neg c9_9, if_pos c10_10]; done) | (rw [f_X0_wheelValue_1, if_neg c0_0, if_neg c1_1, if_neg c2_2, if_neg c3_3, if_neg c4_4, if_neg c5_5, if_neg c6_6, if_neg c7_7, if_neg c8_8, if_neg c9_9, if_pos c10_10]; rfl) | (simp only [f_X0_wheelValue_1, if_neg c0_0, if_neg c1_1, if_neg c2_2, if_neg c3_3, if_neg c4_4, if_neg c5_5, if_neg c6_6, if_neg c7_7, if_neg c8_8, if_neg c9_9, if_pos c10_10]; done))
                      · refine lv_tableOut (tgt := 130) hx hb dX0_wheelValue_8 (sw_out11 c0_0 c1_1 c2_2 c3_3 c4_4 c5_5 c6_6 c7_7 c8_8 c9_9 c10_10) (by decide) ?_
                        refine lv_aload_n hx hb dX0_wheelValue_130 rfl (lv_at hl 0 rfl) ?_
                        refine get_wh_12 C hK X 2 rfl fl_X0_178 dX0_wheelValue_131 ?_
                        exact hret _ _ _ _ _ _ dX0_wheelValue_134 X rfl (by first | (rw [f_X0_wheelValue_1, if_neg c0_0, if_neg c1_1, if_neg c2_2, if_neg c3_3, if_neg c4_4, if_neg c5_5, if_neg c6_6, if_neg c7_7, if_neg c8_8, if_neg c9_9, if_neg c10_10]; done) | (rw [f_X0_wheelValue_1, if_neg c0_0, if_neg c1_1, if_neg c2_2, if_neg c3_3, if_neg c4_4, if_neg c5_5, if_neg c6_6, if_neg c7_7, if_neg c8_8, if_neg c9_9, if_neg c10_10]; rfl) | (simp only [f_X0_wheelValue_1, if_neg c0_0, if_neg c1_1, if_neg c2_2, if_neg c3_3, if_neg c4_4, if_neg c5_5, if_neg c6_6, if_neg c7_7, if_neg c8_8, if_neg c9_9, if_neg c10_10]; done))
def f_X0_wheelValue_2 (u : CarS) (wt : Int32) : Int32 := (if wt = 0 then ((u.1 4) 0) else (if wt = 1 then ((u.1 4) 1) else (if wt = 2 then ((u.1 4) 2) else (if wt = 3 then ((u.1 4) 3) else (if wt = 4 then ((u.1 4) 4) else (if wt = 5 then ((u.1 4) 5) else (if wt = 6 then ((u.1 4) 6) else (if wt = 7 then (f_X6_asNumber ((u.1 4) 7)) else (if wt = 8 then ((u.1 4) 8) else (if wt = 9 then (f_X5_slip (u.1 4) ((u.1 0) 0)) else (if wt = 10 then ((u.1 4) 12) else ((u.1 4) 11))))))))))))
set_option maxHeartbeats 4000000 in
set_option maxRecDepth 100000 in
theorem c_X0_wheelValue_2 (l : Launch) (D : va_G) (ty : Nat → ClassId) (ad : Nat → Nat) (u : CarS) (wt : Int32) : MC l D ty yX0_wheelValue cX0_wheelValue 4 (some .int) 2 [.ref (ad 0), .int 2, .int wt] [((ad 0), caE (u.1 0) (ad 1) (ad 2) (ad 11) (ad 15) (ad 19)), ((ad 2), waE ty (ad 3) (ad 4) (ad 5) (ad 6)), ((ad 5), whE (u.1 4) (ad 9))] (some (.int (f_X0_wheelValue_2 u wt))) [((ad 0), caE (u.1 0) (ad 1) (ad 2) (ad 11) (ad 15) (ad 19)), ((ad 2), waE ty (ad 3) (ad 4) (ad 5) (ad 6)), ((ad 5), whE (u.1 4) (ad 9))] := by
  refine mc_i (by decide +kernel) (Nat.le_of_ble_eq_true rfl) ?_
  intro p e s m args below meth c A Q ls C hK hA X hret hl
  have hx := C.1
  have hb := C.2.1
  have hl : lv_has ls 4 [(0, .ref (ad 0)), (1, .int 2), (2, .int wt)] := hl
  have X : Wd D A s.heap [((ad 0), caE (u.1 0) (ad 1) (ad 2) (ad 11) (ad 15) (ad 19)), ((ad 2), waE ty (ad 3) (ad 4) (ad 5) (ad 6)), ((ad 5), whE (u.1 4) (ad 9))] s.heap [] := X
  refine lv_aload_n hx hb dX0_wheelValue_0 rfl (lv_at hl 0 rfl) ?_
  refine get_ca_1 C hK X 0 rfl fl_X0_22 dX0_wheelValue_1 ?_
  refine lv_iload_n hx hb dX0_wheelValue_4 rfl (lv_at hl 1 rfl) ?_
  refine s_aald (t0 := 2) (b := (ad 5)) C hK X 1 rfl rfl (vp_in_nI (n := 2) (by decide) (by decide)) rfl dX0_wheelValue_5 ?_
  refine lv_astore_n (lv' := [(3, .ref (ad 5)), (0, .ref (ad 0)), (1, .int 2), (2, .int wt)]) hx hb dX0_wheelValue_6 rfl hl (by decide) rfl (fun ls hl => ?_)
  refine lv_iload_n hx hb dX0_wheelValue_7 rfl (lv_at hl 3 rfl) ?_
  by_cases c0_0 : wt = 0
  · refine lv_tableIn (off := 60) (tgt := 68) hx hb dX0_wheelValue_8 (by rw [c0_0]; decide) (by rw [c0_0]; decide) (by rw [c0_0]; rfl) (by decide) ?_
    refine lv_aload_n hx hb dX0_wheelValue_68 rfl (lv_at hl 0 rfl) ?_
    refine get_wh_0 C hK X 2 rfl fl_X0_150 dX0_wheelValue_69 ?_
    exact hret _ _ _ _ _ _ dX0_wheelValue_72 X rfl (by first | (rw [f_X0_wheelValue_2, if_pos c0_0]; done) | (rw [f_X0_wheelValue_2, if_pos c0_0]; rfl) | (simp only [f_X0_wheelValue_2, if_pos c0_0]; done))
  · by_cases c1_1 : wt = 1
    · refine lv_tableIn (off := 65) (tgt := 73) hx hb dX0_wheelValue_8 (by rw [c1_1]; decide) (by rw [c1_1]; decide) (by rw [c1_1]; rfl) (by decide) ?_
      refine lv_aload_n hx hb dX0_wheelValue_73 rfl (lv_at hl 0 rfl) ?_
      refine get_wh_1 C hK X 2 rfl fl_X0_151 dX0_wheelValue_74 ?_
      exact hret _ _ _ _ _ _ dX0_wheelValue_77 X rfl (by first | (rw [f_X0_wheelValue_2, if_neg c0_0, if_pos c1_1]; done) | (rw [f_X0_wheelValue_2, if_neg c0_0, if_pos c1_1]; rfl) | (simp only [f_X0_wheelValue_2, if_neg c0_0, if_pos c1_1]; done))
    · by_cases c2_2 : wt = 2
      · refine lv_tableIn (off := 70) (tgt := 78) hx hb dX0_wheelValue_8 (by rw [c2_2]; decide) (by rw [c2_2]; decide) (by rw [c2_2]; rfl) (by decide) ?_
        refine lv_aload_n hx hb dX0_wheelValue_78 rfl (lv_at hl 0 rfl) ?_
        refine get_wh_2 C hK X 2 rfl fl_X0_154 dX0_wheelValue_79 ?_
        exact hret _ _ _ _ _ _ dX0_wheelValue_82 X rfl (by first | (rw [f_X0_wheelValue_2, if_neg c0_0, if_neg c1_1, if_pos c2_2]; done) | (rw [f_X0_wheelValue_2, if_neg c0_0, if_neg c1_1, if_pos c2_2]; rfl) | (simp only [f_X0_wheelValue_2, if_neg c0_0, if_neg c1_1, if_pos c2_2]; done))
      · by_cases c3_3 : wt = 3
        · refine lv_tableIn (off := 75) (tgt := 83) hx hb dX0_wheelValue_8 (by rw [c3_3]; decide) (by rw [c3_3]; decide) (by rw [c3_3]; rfl) (by decide) ?_
          refine lv_aload_n hx hb dX0_wheelValue_83 rfl (lv_at hl 0 rfl) ?_
          refine get_wh_3 C hK X 2 rfl fl_X0_157 dX0_wheelValue_84 ?_
          exact hret _ _ _ _ _ _ dX0_wheelValue_87 X rfl (by first | (rw [f_X0_wheelValue_2, if_neg c0_0, if_neg c1_1, if_neg c2_2, if_pos c3_3]; done) | (rw [f_X0_wheelValue_2, if_neg c0_0, if_neg c1_1, if_neg c2_2, if_pos c3_3]; rfl) | (simp only [f_X0_wheelValue_2, if_neg c0_0, if_neg c1_1, if_neg c2_2, if_pos c3_3]; done))
        · by_cases c4_4 : wt = 4
          · refine lv_tableIn (off := 80) (tgt := 88) hx hb dX0_wheelValue_8 (by rw [c4_4]; decide) (by rw [c4_4]; decide) (by rw [c4_4]; rfl) (by decide) ?_
            refine lv_aload_n hx hb dX0_wheelValue_88 rfl (lv_at hl 0 rfl) ?_
            refine get_wh_4 C hK X 2 rfl fl_X0_160 dX0_wheelValue_89 ?_
            exact hret _ _ _ _ _ _ dX0_wheelValue_92 X rfl (by first | (rw [f_X0_wheelValue_2, if_neg c0_0, if_neg c1_1, if_neg c2_2, if_neg c3_3, if_pos c4_4]; done) | (rw [f_X0_wheelValue_2, if_neg c0_0, if_neg c1_1, if_neg c2_2, if_neg c3_3, if_pos c4_4]; rfl) | (simp only [f_X0_wheelValue_2, if_neg c0_0, if_neg c1_1, if_neg c2_2, if_neg c3_3, if_pos c4_4]; done))
          · by_cases c5_5 : wt = 5
            · refine lv_tableIn (off := 85) (tgt := 93) hx hb dX0_wheelValue_8 (by rw [c5_5]; decide) (by rw [c5_5]; decide) (by rw [c5_5]; rfl) (by decide) ?_
              refine lv_aload_n hx hb dX0_wheelValue_93 rfl (lv_at hl 0 rfl) ?_
              refine get_wh_5 C hK X 2 rfl fl_X0_163 dX0_wheelValue_94 ?_
              exact hret _ _ _ _ _ _ dX0_wheelValue_97 X rfl (by first | (rw [f_X0_wheelValue_2, if_neg c0_0, if_neg c1_1, if_neg c2_2, if_neg c3_3, if_neg c4_4, if_pos c5_5]; done) | (rw [f_X0_wheelValue_2, if_neg c0_0, if_neg c1_1, if_neg c2_2, if_neg c3_3, if_neg c4_4, if_pos c5_5]; rfl) | (simp only [f_X0_wheelValue_2, if_neg c0_0, if_neg c1_1, if_neg c2_2, if_neg c3_3, if_neg c4_4, if_pos c5_5]; done))
            · by_cases c6_6 : wt = 6
              · refine lv_tableIn (off := 90) (tgt := 98) hx hb dX0_wheelValue_8 (by rw [c6_6]; decide) (by rw [c6_6]; decide) (by rw [c6_6]; rfl) (by decide) ?_
                refine lv_aload_n hx hb dX0_wheelValue_98 rfl (lv_at hl 0 rfl) ?_
                refine get_wh_6 C hK X 2 rfl fl_X0_166 dX0_wheelValue_99 ?_
                exact hret _ _ _ _ _ _ dX0_wheelValue_102 X rfl (by first | (rw [f_X0_wheelValue_2, if_neg c0_0, if_neg c1_1, if_neg c2_2, if_neg c3_3, if_neg c4_4, if_neg c5_5, if_pos c6_6]; done) | (rw [f_X0_wheelValue_2, if_neg c0_0, if_neg c1_1, if_neg c2_2, if_neg c3_3, if_neg c4_4, if_neg c5_5, if_pos c6_6]; rfl) | (simp only [f_X0_wheelValue_2, if_neg c0_0, if_neg c1_1, if_neg c2_2, if_neg c3_3, if_neg c4_4, if_neg c5_5, if_pos c6_6]; done))
              · by_cases c7_7 : wt = 7
                · refine lv_tableIn (off := 95) (tgt := 103) hx hb dX0_wheelValue_8 (by rw [c7_7]; decide) (by rw [c7_7]; decide) (by rw [c7_7]; rfl) (by decide) ?_
                  refine lv_aload_n hx hb dX0_wheelValue_103 rfl (lv_at hl 0 rfl) ?_
                  refine get_wh_8 C hK X 2 rfl fl_X0_169 dX0_wheelValue_104 ?_
                  refine s_cN0i C hK hA X (c_X6_asNumber l D ty ((u.1 4) 7)) [] pk_n rfl sl_X6_asNumber nw_X0_142 ⟨Nat.le_of_ble_eq_true rfl, Nat.le_of_ble_eq_true rfl⟩ ⟨Nat.zero_le _, Nat.zero_le _⟩ hl.1 rfl (Nat.le_of_ble_eq_true rfl) dX0_wheelValue_107 (fun H locs X => ?_)
                  exact hret _ _ _ _ _ _ dX0_wheelValue_110 X rfl (by first | (rw [f_X0_wheelValue_2, if_neg c0_0, if_neg c1_1, if_neg c2_2, if_neg c3_3, if_neg c4_4, if_neg c5_5, if_neg c6_6, if_pos c7_7]; done) | (rw [f_X0_wheelValue_2, if_neg c0_0, if_neg c1_1, if_neg c2_2, if_neg c3_3, if_neg c4_4, if_neg c5_5, if_neg c6_6, if_pos c7_7]; rfl) | (simp only [f_X0_wheelValue_2, if_neg c0_0, if_neg c1_1, if_neg c2_2, if_neg c3_3, if_neg c4_4, if_neg c5_5, if_neg c6_6, if_pos c7_7]; done))
                · by_cases c8_8 : wt = 8
                  · refine lv_tableIn (off := 103) (tgt := 111) hx hb dX0_wheelValue_8 (by rw [c8_8]; decide) (by rw [c8_8]; decide) (by rw [c8_8]; rfl) (by decide) ?_
                    refine lv_aload_n hx hb dX0_wheelValue_111 rfl (lv_at hl 0 rfl) ?_
                    refine get_wh_7 C hK X 2 rfl fl_X0_172 dX0_wheelValue_112 ?_
                    exact hret _ _ _ _ _ _ dX0_wheelValue_115 X rfl (by first | (rw [f_X0_wheelValue_2, if_neg c0_0, if_neg c1_1, if_neg c2_2, if_neg c3_3, if_neg c4_4, if_neg c5_5, if_neg c6_6, if_neg c7_7, if_pos c8_8]; done) | (rw [f_X0_wheelValue_2, if_neg c0_0, if_neg c1_1, if_neg c2_2, if_neg c3_3, if_neg c4_4, if_neg c5_5, if_neg c6_6, if_neg c7_7, if_pos c8_8]; rfl) | (simp only [f_X0_wheelValue_2, if_neg c0_0, if_neg c1_1, if_neg c2_2, if_neg c3_3, if_neg c4_4, if_neg c5_5, if_neg c6_6, if_neg c7_7, if_pos c8_8]; done))
                  · by_cases c9_9 : wt = 9
                    · refine lv_tableIn (off := 108) (tgt := 116) hx hb dX0_wheelValue_8 (by rw [c9_9]; decide) (by rw [c9_9]; decide) (by rw [c9_9]; rfl) (by decide) ?_
                      refine lv_aload_n hx hb dX0_wheelValue_116 rfl (lv_at hl 0 rfl) ?_
                      refine lv_aload_n hx hb dX0_wheelValue_117 rfl (lv_at hl 1 rfl) ?_
                      refine get_ca_5 C hK X 0 rfl fl_X0_48 dX0_wheelValue_118 ?_
                      refine s_cV0i C hK hA X (c_X5_slip l D ty (ad 5) (ad 9) (u.1 4) ((u.1 0) 0)) [2] (pk_c rfl pk_n) rfl ml_X5_slip wm_X0_120 (q0 := 0) rfl rfl rfl ⟨Nat.le_of_ble_eq_true rfl, Nat.le_of_ble_eq_true rfl⟩ ⟨Nat.zero_le _, Nat.zero_le _⟩ hl.1 rfl (Nat.le_of_ble_eq_true rfl) dX0_wheelValue_121 (fun H locs X => ?_)
                      exact hret _ _ _ _ _ _ dX0_wheelValue_124 X rfl (by first | (rw [f_X0_wheelValue_2, if_neg c0_0, if_neg c1_1, if_neg c2_2, if_neg c3_3, if_neg c4_4, if_neg c5_5, if_neg c6_6, if_neg c7_7, if_neg c8_8, if_pos c9_9]; done) | (rw [f_X0_wheelValue_2, if_neg c0_0, if_neg c1_1, if_neg c2_2, if_neg c3_3, if_neg c4_4, if_neg c5_5, if_neg c6_6, if_neg c7_7, if_neg c8_8, if_pos c9_9]; rfl) | (simp only [f_X0_wheelValue_2, if_neg c0_0, if_neg c1_1, if_neg c2_2, if_neg c3_3, if_neg c4_4, if_neg c5_5, if_neg c6_6, if_neg c7_7, if_neg c8_8, if_pos c9_9]; done))
                    · by_cases c10_10 : wt = 10
                      · refine lv_tableIn (off := 117) (tgt := 125) hx hb dX0_wheelValue_8 (by rw [c10_10]; decide) (by rw [c10_10]; decide) (by rw [c10_10]; rfl) (by decide) ?_
                        refine lv_aload_n hx hb dX0_wheelValue_125 rfl (lv_at hl 0 rfl) ?_
                        refine get_wh_13 C hK X 2 rfl fl_X0_175 dX0_wheelValue_126 ?_
                        exact hret _ _ _ _ _ _ dX0_wheelValue_129 X rfl (by first | (rw [f_X0_wheelValue_2, if_neg c0_0, if_neg c1_1, if_neg c2_2, if_neg c3_3, if_neg c4_4, if_neg c5_5, if_neg c6_6, if_neg c7_7, if_neg c8_8, if_neg c9_9, if_pos c10_10]; done) | (rw [f_X0_wheelValue_2, if_neg c0_0, if_neg c1_1, if_neg c2_2, if_neg c3_3, if_neg c4_4, if_neg c5_5, if_neg c6_6, if_neg c7_7, if_neg c8_8, if_neg c9_9, if_pos c10_10]; rfl) | (simp only [f_X0_wheelValue_2, if_neg c0_0, if_neg c1_1, if_neg c2_2, if_neg c3_3, if_neg c4_4, if_neg c5_5, if_neg c6_6, if_neg c7_7, if_neg c8_8, if_neg c9_9, if_pos c10_10]; done))
                      · refine lv_tableOut (tgt := 130) hx hb dX0_wheelValue_8 (sw_out11 c0_0 c1_1 c2_2 c3_3 c4_4 c5_5 c6_6 c7_7 c8_8 c9_9 c10_10) (by decide) ?_
                        refine lv_aload_n hx hb dX0_wheelValue_130 rfl (lv_at hl 0 rfl) ?_
                        refine get_wh_12 C hK X 2 rfl fl_X0_178 dX0_wheelValue_131 ?_
                        exact hret _ _ _ _ _ _ dX0_wheelValue_134 X rfl (by first | (rw [f_X0_wheelValue_2, if_neg c0_0, if_neg c1_1, if_neg c2_2, if_neg c3_3, if_neg c4_4, if_neg c5_5, if_neg c6_6, if_neg c7_7, if_neg c8_8, if_neg c9_9, if_neg c10_10]; done) | (rw [f_X0_wheelValue_2, if_neg c0_0, if_neg c1_1, if_neg c2_2, if_neg c3_3, if_neg c4_4, if_neg c5_5, if_neg c6_6, if_neg c7_7, if_neg c8_8, if_neg c9_9, if_neg c10_10]; rfl) | (simp only [f_X0_wheelValue_2, if_neg c0_0, if_neg c1_1, if_neg c2_2, if_neg c3_3, if_neg c4_4, if_neg c5_5, if_neg c6_6, if_neg c7_7, if_neg c8_8, if_neg c9_9, if_neg c10_10]; done))
def f_X0_wheelValue_3 (u : CarS) (wt : Int32) : Int32 := (if wt = 0 then ((u.1 5) 0) else (if wt = 1 then ((u.1 5) 1) else (if wt = 2 then ((u.1 5) 2) else (if wt = 3 then ((u.1 5) 3) else (if wt = 4 then ((u.1 5) 4) else (if wt = 5 then ((u.1 5) 5) else (if wt = 6 then ((u.1 5) 6) else (if wt = 7 then (f_X6_asNumber ((u.1 5) 7)) else (if wt = 8 then ((u.1 5) 8) else (if wt = 9 then (f_X5_slip (u.1 5) ((u.1 0) 0)) else (if wt = 10 then ((u.1 5) 12) else ((u.1 5) 11))))))))))))
set_option maxHeartbeats 4000000 in
set_option maxRecDepth 100000 in
theorem c_X0_wheelValue_3 (l : Launch) (D : va_G) (ty : Nat → ClassId) (ad : Nat → Nat) (u : CarS) (wt : Int32) : MC l D ty yX0_wheelValue cX0_wheelValue 4 (some .int) 2 [.ref (ad 0), .int 3, .int wt] [((ad 0), caE (u.1 0) (ad 1) (ad 2) (ad 11) (ad 15) (ad 19)), ((ad 2), waE ty (ad 3) (ad 4) (ad 5) (ad 6)), ((ad 6), whE (u.1 5) (ad 10))] (some (.int (f_X0_wheelValue_3 u wt))) [((ad 0), caE (u.1 0) (ad 1) (ad 2) (ad 11) (ad 15) (ad 19)), ((ad 2), waE ty (ad 3) (ad 4) (ad 5) (ad 6)), ((ad 6), whE (u.1 5) (ad 10))] := by
  refine mc_i (by decide +kernel) (Nat.le_of_ble_eq_true rfl) ?_
  intro p e s m args below meth c A Q ls C hK hA X hret hl
  have hx := C.1
  have hb := C.2.1
  have hl : lv_has ls 4 [(0, .ref (ad 0)), (1, .int 3), (2, .int wt)] := hl
  have X : Wd D A s.heap [((ad 0), caE (u.1 0) (ad 1) (ad 2) (ad 11) (ad 15) (ad 19)), ((ad 2), waE ty (ad 3) (ad 4) (ad 5) (ad 6)), ((ad 6), whE (u.1 5) (ad 10))] s.heap [] := X
  refine lv_aload_n hx hb dX0_wheelValue_0 rfl (lv_at hl 0 rfl) ?_
  refine get_ca_1 C hK X 0 rfl fl_X0_22 dX0_wheelValue_1 ?_
  refine lv_iload_n hx hb dX0_wheelValue_4 rfl (lv_at hl 1 rfl) ?_
  refine s_aald (t0 := 2) (b := (ad 6)) C hK X 1 rfl rfl (vp_in_nI (n := 3) (by decide) (by decide)) rfl dX0_wheelValue_5 ?_
  refine lv_astore_n (lv' := [(3, .ref (ad 6)), (0, .ref (ad 0)), (1, .int 3), (2, .int wt)]) hx hb dX0_wheelValue_6 rfl hl (by decide) rfl (fun ls hl => ?_)
  refine lv_iload_n hx hb dX0_wheelValue_7 rfl (lv_at hl 3 rfl) ?_
  by_cases c0_0 : wt = 0
  · refine lv_tableIn (off := 60) (tgt := 68) hx hb dX0_wheelValue_8 (by rw [c0_0]; decide) (by rw [c0_0]; decide) (by rw [c0_0]; rfl) (by decide) ?_
    refine lv_aload_n hx hb dX0_wheelValue_68 rfl (lv_at hl 0 rfl) ?_
    refine get_wh_0 C hK X 2 rfl fl_X0_150 dX0_wheelValue_69 ?_
    exact hret _ _ _ _ _ _ dX0_wheelValue_72 X rfl (by first | (rw [f_X0_wheelValue_3, if_pos c0_0]; done) | (rw [f_X0_wheelValue_3, if_pos c0_0]; rfl) | (simp only [f_X0_wheelValue_3, if_pos c0_0]; done))
  · by_cases c1_1 : wt = 1
    · refine lv_tableIn (off := 65) (tgt := 73) hx hb dX0_wheelValue_8 (by rw [c1_1]; decide) (by rw [c1_1]; decide) (by rw [c1_1]; rfl) (by decide) ?_
      refine lv_aload_n hx hb dX0_wheelValue_73 rfl (lv_at hl 0 rfl) ?_
      refine get_wh_1 C hK X 2 rfl fl_X0_151 dX0_wheelValue_74 ?_
      exact hret _ _ _ _ _ _ dX0_wheelValue_77 X rfl (by first | (rw [f_X0_wheelValue_3, if_neg c0_0, if_pos c1_1]; done) | (rw [f_X0_wheelValue_3, if_neg c0_0, if_pos c1_1]; rfl) | (simp only [f_X0_wheelValue_3, if_neg c0_0, if_pos c1_1]; done))
    · by_cases c2_2 : wt = 2
      · refine lv_tableIn (off := 70) (tgt := 78) hx hb dX0_wheelValue_8 (by rw [c2_2]; decide) (by rw [c2_2]; decide) (by rw [c2_2]; rfl) (by decide) ?_
        refine lv_aload_n hx hb dX0_wheelValue_78 rfl (lv_at hl 0 rfl) ?_
        refine get_wh_2 C hK X 2 rfl fl_X0_154 dX0_wheelValue_79 ?_
        exact hret _ _ _ _ _ _ dX0_wheelValue_82 X rfl (by first | (rw [f_X0_wheelValue_3, if_neg c0_0, if_neg c1_1, if_pos c2_2]; done) | (rw [f_X0_wheelValue_3, if_neg c0_0, if_neg c1_1, if_pos c2_2]; rfl) | (simp only [f_X0_wheelValue_3, if_neg c0_0, if_neg c1_1, if_pos c2_2]; done))
      · by_cases c3_3 : wt = 3
        · refine lv_tableIn (off := 75) (tgt := 83) hx hb dX0_wheelValue_8 (by rw [c3_3]; decide) (by rw [c3_3]; decide) (by rw [c3_3]; rfl) (by decide) ?_
          refine lv_aload_n hx hb dX0_wheelValue_83 rfl (lv_at hl 0 rfl) ?_
          refine get_wh_3 C hK X 2 rfl fl_X0_157 dX0_wheelValue_84 ?_
          exact hret _ _ _ _ _ _ dX0_wheelValue_87 X rfl (by first | (rw [f_X0_wheelValue_3, if_neg c0_0, if_neg c1_1, if_neg c2_2, if_pos c3_3]; done) | (rw [f_X0_wheelValue_3, if_neg c0_0, if_neg c1_1, if_neg c2_2, if_pos c3_3]; rfl) | (simp only [f_X0_wheelValue_3, if_neg c0_0, if_neg c1_1, if_neg c2_2, if_pos c3_3]; done))
        · by_cases c4_4 : wt = 4
          · refine lv_tableIn (off := 80) (tgt := 88) hx hb dX0_wheelValue_8 (by rw [c4_4]; decide) (by rw [c4_4]; decide) (by rw [c4_4]; rfl) (by decide) ?_
            refine lv_aload_n hx hb dX0_wheelValue_88 rfl (lv_at hl 0 rfl) ?_
            refine get_wh_4 C hK X 2 rfl fl_X0_160 dX0_wheelValue_89 ?_
            exact hret _ _ _ _ _ _ dX0_wheelValue_92 X rfl (by first | (rw [f_X0_wheelValue_3, if_neg c0_0, if_neg c1_1, if_neg c2_2, if_neg c3_3, if_pos c4_4]; done) | (rw [f_X0_wheelValue_3, if_neg c0_0, if_neg c1_1, if_neg c2_2, if_neg c3_3, if_pos c4_4]; rfl) | (simp only [f_X0_wheelValue_3, if_neg c0_0, if_neg c1_1, if_neg c2_2, if_neg c3_3, if_pos c4_4]; done))
          · by_cases c5_5 : wt = 5
            · refine lv_tableIn (off := 85) (tgt := 93) hx hb dX0_wheelValue_8 (by rw [c5_5]; decide) (by rw [c5_5]; decide) (by rw [c5_5]; rfl) (by decide) ?_
              refine lv_aload_n hx hb dX0_wheelValue_93 rfl (lv_at hl 0 rfl) ?_
              refine get_wh_5 C hK X 2 rfl fl_X0_163 dX0_wheelValue_94 ?_
              exact hret _ _ _ _ _ _ dX0_wheelValue_97 X rfl (by first | (rw [f_X0_wheelValue_3, if_neg c0_0, if_neg c1_1, if_neg c2_2, if_neg c3_3, if_neg c4_4, if_pos c5_5]; done) | (rw [f_X0_wheelValue_3, if_neg c0_0, if_neg c1_1, if_neg c2_2, if_neg c3_3, if_neg c4_4, if_pos c5_5]; rfl) | (simp only [f_X0_wheelValue_3, if_neg c0_0, if_neg c1_1, if_neg c2_2, if_neg c3_3, if_neg c4_4, if_pos c5_5]; done))
            · by_cases c6_6 : wt = 6
              · refine lv_tableIn (off := 90) (tgt := 98) hx hb dX0_wheelValue_8 (by rw [c6_6]; decide) (by rw [c6_6]; decide) (by rw [c6_6]; rfl) (by decide) ?_
                refine lv_aload_n hx hb dX0_wheelValue_98 rfl (lv_at hl 0 rfl) ?_
                refine get_wh_6 C hK X 2 rfl fl_X0_166 dX0_wheelValue_99 ?_
                exact hret _ _ _ _ _ _ dX0_wheelValue_102 X rfl (by first | (rw [f_X0_wheelValue_3, if_neg c0_0, if_neg c1_1, if_neg c2_2, if_neg c3_3, if_neg c4_4, if_neg c5_5, if_pos c6_6]; done) | (rw [f_X0_wheelValue_3, if_neg c0_0, if_neg c1_1, if_neg c2_2, if_neg c3_3, if_neg c4_4, if_neg c5_5, if_pos c6_6]; rfl) | (simp only [f_X0_wheelValue_3, if_neg c0_0, if_neg c1_1, if_neg c2_2, if_neg c3_3, if_neg c4_4, if_neg c5_5, if_pos c6_6]; done))
              · by_cases c7_7 : wt = 7
                · refine lv_tableIn (off := 95) (tgt := 103) hx hb dX0_wheelValue_8 (by rw [c7_7]; decide) (by rw [c7_7]; decide) (by rw [c7_7]; rfl) (by decide) ?_
                  refine lv_aload_n hx hb dX0_wheelValue_103 rfl (lv_at hl 0 rfl) ?_
                  refine get_wh_8 C hK X 2 rfl fl_X0_169 dX0_wheelValue_104 ?_
                  refine s_cN0i C hK hA X (c_X6_asNumber l D ty ((u.1 5) 7)) [] pk_n rfl sl_X6_asNumber nw_X0_142 ⟨Nat.le_of_ble_eq_true rfl, Nat.le_of_ble_eq_true rfl⟩ ⟨Nat.zero_le _, Nat.zero_le _⟩ hl.1 rfl (Nat.le_of_ble_eq_true rfl) dX0_wheelValue_107 (fun H locs X => ?_)
                  exact hret _ _ _ _ _ _ dX0_wheelValue_110 X rfl (by first | (rw [f_X0_wheelValue_3, if_neg c0_0, if_neg c1_1, if_neg c2_2, if_neg c3_3, if_neg c4_4, if_neg c5_5, if_neg c6_6, if_pos c7_7]; done) | (rw [f_X0_wheelValue_3, if_neg c0_0, if_neg c1_1, if_neg c2_2, if_neg c3_3, if_neg c4_4, if_neg c5_5, if_neg c6_6, if_pos c7_7]; rfl) | (simp only [f_X0_wheelValue_3, if_neg c0_0, if_neg c1_1, if_neg c2_2, if_neg c3_3, if_neg c4_4, if_neg c5_5, if_neg c6_6, if_pos c7_7]; done))
                · by_cases c8_8 : wt = 8
                  · refine lv_tableIn (off := 103) (tgt := 111) hx hb dX0_wheelValue_8 (by rw [c8_8]; decide) (by rw [c8_8]; decide) (by rw [c8_8]; rfl) (by decide) ?_
                    refine lv_aload_n hx hb dX0_wheelValue_111 rfl (lv_at hl 0 rfl) ?_
                    refine get_wh_7 C hK X 2 rfl fl_X0_172 dX0_wheelValue_112 ?_
                    exact hret _ _ _ _ _ _ dX0_wheelValue_115 X rfl (by first | (rw [f_X0_wheelValue_3, if_neg c0_0, if_neg c1_1, if_neg c2_2, if_neg c3_3, if_neg c4_4, if_neg c5_5, if_neg c6_6, if_neg c7_7, if_pos c8_8]; done) | (rw [f_X0_wheelValue_3, if_neg c0_0, if_neg c1_1, if_neg c2_2, if_neg c3_3, if_neg c4_4, if_neg c5_5, if_neg c6_6, if_neg c7_7, if_pos c8_8]; rfl) | (simp only [f_X0_wheelValue_3, if_neg c0_0, if_neg c1_1, if_neg c2_2, if_neg c3_3, if_neg c4_4, if_neg c5_5, if_neg c6_6, if_neg c7_7, if_pos c8_8]; done))
                  · by_cases c9_9 : wt = 9
                    · refine lv_tableIn (off := 108) (tgt := 116) hx hb dX0_wheelValue_8 (by rw [c9_9]; decide) (by rw [c9_9]; decide) (by rw [c9_9]; rfl) (by decide) ?_
                      refine lv_aload_n hx hb dX0_wheelValue_116 rfl (lv_at hl 0 rfl) ?_
                      refine lv_aload_n hx hb dX0_wheelValue_117 rfl (lv_at hl 1 rfl) ?_
                      refine get_ca_5 C hK X 0 rfl fl_X0_48 dX0_wheelValue_118 ?_
                      refine s_cV0i C hK hA X (c_X5_slip l D ty (ad 6) (ad 10) (u.1 5) ((u.1 0) 0)) [2] (pk_c rfl pk_n) rfl ml_X5_slip wm_X0_120 (q0 := 0) rfl rfl rfl ⟨Nat.le_of_ble_eq_true rfl, Nat.le_of_ble_eq_true rfl⟩ ⟨Nat.zero_le _, Nat.zero_le _⟩ hl.1 rfl (Nat.le_of_ble_eq_true rfl) dX0_wheelValue_121 (fun H locs X => ?_)
                      exact hret _ _ _ _ _ _ dX0_wheelValue_124 X rfl (by first | (rw [f_X0_wheelValue_3, if_neg c0_0, if_neg c1_1, if_neg c2_2, if_neg c3_3, if_neg c4_4, if_neg c5_5, if_neg c6_6, if_neg c7_7, if_neg c8_8, if_pos c9_9]; done) | (rw [f_X0_wheelValue_3, if_neg c0_0, if_neg c1_1, if_neg c2_2, if_neg c3_3, if_neg c4_4, if_neg c5_5, if_neg c6_6, if_neg c7_7, if_neg c8_8, if_pos c9_9]; rfl) | (simp only [f_X0_wheelValue_3, if_neg c0_0, if_neg c1_1, if_neg c2_2, if_neg c3_3, if_neg c4_4, if_neg c5_5, if_neg c6_6, if_neg c7_7, if_neg c8_8, if_pos c9_9]; done))
                    · by_cases c10_10 : wt = 10
                      · refine lv_tableIn (off := 117) (tgt := 125) hx hb dX0_wheelValue_8 (by rw [c10_10]; decide) (by rw [c10_10]; decide) (by rw [c10_10]; rfl) (by decide) ?_
                        refine lv_aload_n hx hb dX0_wheelValue_125 rfl (lv_at hl 0 rfl) ?_
                        refine get_wh_13 C hK X 2 rfl fl_X0_175 dX0_wheelValue_126 ?_
                        exact hret _ _ _ _ _ _ dX0_wheelValue_129 X rfl (by first | (rw [f_X0_wheelValue_3, if_neg c0_0, if_neg c1_1, if_neg c2_2, if_neg c3_3, if_neg c4_4, if_neg c5_5, if_neg c6_6, if_neg c7_7, if_neg c8_8, if_neg c9_9, if_pos c10_10]; done) | (rw [f_X0_wheelValue_3, if_neg c0_0, if_neg c1_1, if_neg c2_2, if_neg c3_3, if_neg c4_4, if_neg c5_5, if_neg c6_6, if_neg c7_7, if_neg c8_8, if_neg c9_9, if_pos c10_10]; rfl) | (simp only [f_X0_wheelValue_3, if_neg c0_0, if_neg c1_1, if_neg c2_2, if_neg c3_3, if_neg c4_4, if_neg c5_5, if_neg c6_6, if_neg c7_7, if_neg c8_8, if_neg c9_9, if_pos c10_10]; done))
                      · refine lv_tableOut (tgt := 130) hx hb dX0_wheelValue_8 (sw_out11 c0_0 c1_1 c2_2 c3_3 c4_4 c5_5 c6_6 c7_7 c8_8 c9_9 c10_10) (by decide) ?_
                        refine lv_aload_n hx hb dX0_wheelValue_130 rfl (lv_at hl 0 rfl) ?_
                        refine get_wh_12 C hK X 2 rfl fl_X0_178 dX0_wheelValue_131 ?_
                        exact hret _ _ _ _ _ _ dX0_wheelValue_134 X rfl (by first | (rw [f_X0_wheelValue_3, if_neg c0_0, if_neg c1_1, if_neg c2_2, if_neg c3_3, if_neg c4_4, if_neg c5_5, if_neg c6_6, if_neg c7_7, if_neg c8_8, if_neg c9_9, if_neg c10_10]; done) | (rw [f_X0_wheelValue_3, if_neg c0_0, if_neg c1_1, if_neg c2_2, if_neg c3_3, if_neg c4_4, if_neg c5_5, if_neg c6_6, if_neg c7_7, if_neg c8_8, if_neg c9_9, if_neg c10_10]; rfl) | (simp only [f_X0_wheelValue_3, if_neg c0_0, if_neg c1_1, if_neg c2_2, if_neg c3_3, if_neg c4_4, if_neg c5_5, if_neg c6_6, if_neg c7_7, if_neg c8_8, if_neg c9_9, if_neg c10_10]; done))
def mixWh0 (u : CarS) (h : Int64) : Nat → Int64
  | 0 => h
  | i + 1 => f_X6_mix (mixWh0 u h i) (f_X0_wheelValue_0 u (nI i))
def f_X0_mixWheel_0 (u : CarS) (hh : Int64) : Int64 := (f_X6_mix (f_X6_mix (mixWh0 u hh 12) (f_X0_gripOfWheel_0 (u.2 2) (u.1 0) (u.1 2) (u.1 13) (u.1 14) (u.1 15))) (f_X6_asNumber ((u.1 2) 9)))
set_option maxHeartbeats 4000000 in
set_option maxRecDepth 100000 in
theorem c_X0_mixWheel_0 (l : Launch) (D : va_G) (ty : Nat → ClassId) (ad : Nat → Nat) (u : CarS) (hh : Int64) (hO : CarOK u) : MC l D ty yX0_mixWheel cX0_mixWheel 7 (some .long) 3 [.ref (ad 0), .long hh, .int 0] [((ad 0), caE (u.1 0) (ad 1) (ad 2) (ad 11) (ad 15) (ad 19)), ((ad 2), waE ty (ad 3) (ad 4) (ad 5) (ad 6)), ((ad 3), whE (u.1 2) (ad 7)), ((ad 15), roE (u.2 2) (ad 16) (ad 17) (ad 18)), ((ad 16), arE ty 12 (u.1 13)), ((ad 17), arE ty 12 (u.1 14)), ((ad 18), arE ty 12 (u.1 15))] (some (.long (f_X0_mixWheel_0 u hh))) [((ad 0), caE (u.1 0) (ad 1) (ad 2) (ad 11) (ad 15) (ad 19)), ((ad 2), waE ty (ad 3) (ad 4) (ad 5) (ad 6)), ((ad 3), whE (u.1 2) (ad 7)), ((ad 15), roE (u.2 2) (ad 16) (ad 17) (ad 18)), ((ad 16), arE ty 12 (u.1 13)), ((ad 17), arE ty 12 (u.1 14)), ((ad 18), arE ty 12 (u.1 15))] := by
  refine mc_l (by decide +kernel) (Nat.le_of_ble_eq_true rfl) ?_
  intro p e s m args below meth c A Q ls C hK hA X hret hl
  have hx := C.1
  have hb := C.2.1
  have hl : lv_has ls 7 [(0, .ref (ad 0)), (1, .long hh), (3, .int 0)] := hl
  have X : Wd D A s.heap [((ad 0), caE (u.1 0) (ad 1) (ad 2) (ad 11) (ad 15) (ad 19)), ((ad 2), waE ty (ad 3) (ad 4) (ad 5) (ad 6)), ((ad 3), whE (u.1 2) (ad 7)), ((ad 15), roE (u.2 2) (ad 16) (ad 17) (ad 18)), ((ad 16), arE ty 12 (u.1 13)), ((ad 17), arE ty 12 (u.1 14)), ((ad 18), arE ty 12 (u.1 15))] s.heap [] := X
  refine lv_lload_n hx hb dX0_mixWheel_0 rfl (lv_at hl 1 rfl) ?_
  refine lv_lstore (lv' := [(4, .long hh), (0, .ref (ad 0)), (1, .long hh), (3, .int 0)]) hx hb dX0_mixWheel_1 hl (by decide) rfl (fun ls hl => ?_)
  refine lv_iconst (v := 0) hx hb dX0_mixWheel_3 (by decide) ?_
  refine lv_istore (lv' := [(6, .int 0), (4, .long hh), (0, .ref (ad 0)), (1, .long hh), (3, .int 0)]) hx hb dX0_mixWheel_4 hl (by decide) rfl (fun ls hl => ?_)
  have K1 : ∀ (y1_0 : Int32) (y1_1 : Int64) (ls : Array Slot) (H : Heap) (locs : List Loc), y1_0 = 12 → y1_1 = (mixWh0 u hh 12) → lv_has ls 7 [(6, .int y1_0), (4, .long y1_1), (0, .ref (ad 0)), (1, .long hh), (3, .int 0)] → Wd D A s.heap [((ad 0), caE (u.1 0) (ad 1) (ad 2) (ad 11) (ad 15) (ad 19)), ((ad 2), waE ty (ad 3) (ad 4) (ad 5) (ad 6)), ((ad 3), whE (u.1 2) (ad 7)), ((ad 15), roE (u.2 2) (ad 16) (ad 17) (ad 18)), ((ad 16), arE ty 12 (u.1 13)), ((ad 17), arE ty 12 (u.1 14)), ((ad 18), arE ty 12 (u.1 15))] H locs → W p l e (rmD 3) s m args below meth c H locs 0 0 Q (F0 m 33 ls []) := by
    intro y1_0 y1_1 ls H locs ey1_0 ey1_1 hl X
    subst ey1_0; subst ey1_1
    refine lv_lload hx hb dX0_mixWheel_33 (lv_at hl 1 rfl) ?_
    refine lv_aload_n hx hb dX0_mixWheel_35 rfl (lv_at hl 2 rfl) ?_
    refine lv_iload_n hx hb dX0_mixWheel_36 rfl (lv_at hl 4 rfl) ?_
    refine s_cV0i C hK hA X (c_X0_gripOfWheel_0 l D ty (ad 0) (ad 1) (ad 2) (ad 11) (ad 15) (ad 19) (ad 3) (ad 4) (ad 5) (ad 6) (ad 7) (ad 16) (ad 17) (ad 18) (u.2 2) (u.1 0) (u.1 2) (u.1 13) (u.1 14) (u.1 15) hO.2.2.2.2.2.1) [0, 1, 2, 3, 4, 5, 6] (pk_c rfl (pk_c rfl (pk_c rfl (pk_c rfl (pk_c rfl (pk_c rfl (pk_c rfl pk_n))))))) rfl ml_X0_gripOfWheel wm_X0_109 (q0 := 0) rfl rfl rfl ⟨Nat.le_of_ble_eq_true rfl, Nat.le_of_ble_eq_true rfl⟩ ⟨Nat.zero_le _, Nat.zero_le _⟩ hl.1 rfl (Nat.le_of_ble_eq_true rfl) dX0_mixWheel_37 (fun H locs X => ?_)
    refine s_cN0l C hK hA X (c_X6_mix l D ty (mixWh0 u hh 12) (f_X0_gripOfWheel_0 (u.2 2) (u.1 0) (u.1 2) (u.1 13) (u.1 14) (u.1 15))) [] pk_n rfl sl_X6_mix nw_X0_184 ⟨Nat.le_of_ble_eq_true rfl, Nat.le_of_ble_eq_true rfl⟩ ⟨Nat.zero_le _, Nat.zero_le _⟩ hl.1 rfl (Nat.le_of_ble_eq_true rfl) dX0_mixWheel_40 (fun H locs X => ?_)
    refine lv_lstore (lv' := [(4, .long (f_X6_mix (mixWh0 u hh 12) (f_X0_gripOfWheel_0 (u.2 2) (u.1 0) (u.1 2) (u.1 13) (u.1 14) (u.1 15)))), (6, .int 12), (0, .ref (ad 0)), (1, .long hh), (3, .int 0)]) hx hb dX0_mixWheel_43 hl (by decide) rfl (fun ls hl => ?_)
    refine lv_lload hx hb dX0_mixWheel_45 (lv_at hl 0 rfl) ?_
    refine lv_aload_n hx hb dX0_mixWheel_47 rfl (lv_at hl 2 rfl) ?_
    refine get_ca_1 C hK X 0 rfl fl_X0_22 dX0_mixWheel_48 ?_
    refine lv_iload_n hx hb dX0_mixWheel_51 rfl (lv_at hl 4 rfl) ?_
    refine s_aald (t0 := 2) (b := (ad 3)) C hK X 1 rfl rfl (vp_in_nI (n := 0) (by decide) (by decide)) rfl dX0_mixWheel_52 ?_
    refine get_wh_9 C hK X 2 rfl fl_X0_202 dX0_mixWheel_53 ?_
    refine s_cN0i C hK hA X (c_X6_asNumber l D ty ((u.1 2) 9)) [] pk_n rfl sl_X6_asNumber nw_X0_142 ⟨Nat.le_of_ble_eq_true rfl, Nat.le_of_ble_eq_true rfl⟩ ⟨Nat.zero_le _, Nat.zero_le _⟩ hl.1 rfl (Nat.le_of_ble_eq_true rfl) dX0_mixWheel_56 (fun H locs X => ?_)
    refine s_cN0l C hK hA X (c_X6_mix l D ty (f_X6_mix (mixWh0 u hh 12) (f_X0_gripOfWheel_0 (u.2 2) (u.1 0) (u.1 2) (u.1 13) (u.1 14) (u.1 15))) (f_X6_asNumber ((u.1 2) 9))) [] pk_n rfl sl_X6_mix nw_X0_184 ⟨Nat.le_of_ble_eq_true rfl, Nat.le_of_ble_eq_true rfl⟩ ⟨Nat.zero_le _, Nat.zero_le _⟩ hl.1 rfl (Nat.le_of_ble_eq_true rfl) dX0_mixWheel_59 (fun H locs X => ?_)
    exact hret _ _ _ _ _ _ dX0_mixWheel_62 X rfl (by first | (rw [f_X0_mixWheel_0]; done) | (rw [f_X0_mixWheel_0]; rfl) | (simp only [f_X0_mixWheel_0]; done))
  have L1 : ∀ (kf i : Nat) (y1_0 : Int32) (y1_1 : Int64) (ls : Array Slot) (H : Heap) (locs : List Loc), 12 - i < kf → (i ≤ 12) → y1_0 = (nI i) → y1_1 = (mixWh0 u hh i) → lv_has ls 7 [(6, .int y1_0), (4, .long y1_1), (0, .ref (ad 0)), (1, .long hh), (3, .int 0)] → Wd D A s.heap [((ad 0), caE (u.1 0) (ad 1) (ad 2) (ad 11) (ad 15) (ad 19)), ((ad 2), waE ty (ad 3) (ad 4) (ad 5) (ad 6)), ((ad 3), whE (u.1 2) (ad 7)), ((ad 15), roE (u.2 2) (ad 16) (ad 17) (ad 18)), ((ad 16), arE ty 12 (u.1 13)), ((ad 17), arE ty 12 (u.1 14)), ((ad 18), arE ty 12 (u.1 15))] H locs → W p l e (rmD 3) s m args below meth c H locs 0 0 Q (F0 m 6 ls []) := by
    intro kf
    induction kf with
    | zero => intro i y1_0 y1_1 ls H locs hk; exact absurd hk (Nat.not_lt_zero _)
    | succ kf ih1 =>
      intro i y1_0 y1_1 ls H locs hk hI ey1_0 ey1_1 hl X
      subst ey1_0; subst ey1_1
      refine lv_iload hx hb dX0_mixWheel_6 (lv_at hl 0 rfl) ?_
      refine lv_bipush (v := 12) hx hb dX0_mixWheel_8 (by decide) ?_
      refine lv_icmp_ge (tgt := 33) hx hb dX0_mixWheel_10 (by decide) (fun c0_0 => ?_) (fun c0_0 => ?_)
      · have hE : i = 12 := eq_of_nIle (a := 12) (by decide) (by omega) hI c0_0
        exact K1 (nI i) (mixWh0 u hh i) _ _ _ (by rw [hE]; rfl) (by rw [hE]) (lv_sub hl [0, 1, 2, 3, 4] rfl) X
      · refine lv_lload hx hb dX0_mixWheel_13 (lv_at hl 1 rfl) ?_
        refine lv_aload_n hx hb dX0_mixWheel_15 rfl (lv_at hl 2 rfl) ?_
        refine lv_iload_n hx hb dX0_mixWheel_16 rfl (lv_at hl 4 rfl) ?_
        refine lv_iload hx hb dX0_mixWheel_17 (lv_at hl 0 rfl) ?_
        refine s_cV0i C hK hA X (c_X0_wheelValue_0 l D ty ad u (nI i)) [0, 1, 2] (pk_c rfl (pk_c rfl (pk_c rfl pk_n))) rfl ml_X0_wheelValue wm_X0_199 (q0 := 0) rfl rfl rfl ⟨Nat.le_of_ble_eq_true rfl, Nat.le_of_ble_eq_true rfl⟩ ⟨Nat.zero_le _, Nat.zero_le _⟩ hl.1 rfl (Nat.le_of_ble_eq_true rfl) dX0_mixWheel_19 (fun H locs X => ?_)
        refine s_cN0l C hK hA X (c_X6_mix l D ty (mixWh0 u hh i) (f_X0_wheelValue_0 u (nI i))) [] pk_n rfl sl_X6_mix nw_X0_184 ⟨Nat.le_of_ble_eq_true rfl, Nat.le_of_ble_eq_true rfl⟩ ⟨Nat.zero_le _, Nat.zero_le _⟩ hl.1 rfl (Nat.le_of_ble_eq_true rfl) dX0_mixWheel_22 (fun H locs X => ?_)
        refine lv_lstore (lv' := [(4, .long (f_X6_mix (mixWh0 u hh i) (f_X0_wheelValue_0 u (nI i)))), (6, .int (nI i)), (0, .ref (ad 0)), (1, .long hh), (3, .int 0)]) hx hb dX0_mixWheel_25 hl (by decide) rfl (fun ls hl => ?_)
        refine lv_iinc (v := ((nI i) + 1)) (lv' := [(6, .int ((nI i) + 1)), (4, .long (f_X6_mix (mixWh0 u hh i) (f_X0_wheelValue_0 u (nI i)))), (0, .ref (ad 0)), (1, .long hh), (3, .int 0)]) hx hb dX0_mixWheel_27 hl (k := 1) rfl rfl (by decide) rfl (fun ls hl => ?_)
        refine lv_goto (tgt := 6) hx hb dX0_mixWheel_30 (by decide) ?_
        have h1 : i < 12 := lt_of_nnIle (a := 12) (b := i) (by decide) (by omega) c0_0
        exact ih1 (i + 1) ((nI i) + 1) (f_X6_mix (mixWh0 u hh i) (f_X0_wheelValue_0 u (nI i))) _ _ _ (by omega) (by have := lt_of_nnIle (a := 12) (b := i) (by decide) (by omega) c0_0; omega) (nI_1 i) rfl (lv_sub hl [0, 1, 2, 3, 4] rfl) X
  exact L1 (12 + 1) 0 0 hh _ _ _ (by omega) (Nat.zero_le _) rfl rfl (lv_sub hl [0, 1, 2, 3, 4] rfl) X
def mixWh1 (u : CarS) (h : Int64) : Nat → Int64
  | 0 => h
  | i + 1 => f_X6_mix (mixWh1 u h i) (f_X0_wheelValue_1 u (nI i))
def f_X0_mixWheel_1 (u : CarS) (hh : Int64) : Int64 := (f_X6_mix (f_X6_mix (mixWh1 u hh 12) (f_X0_gripOfWheel_1 (u.2 2) (u.1 0) (u.1 3) (u.1 13) (u.1 14) (u.1 15))) (f_X6_asNumber ((u.1 3) 9)))
set_option maxHeartbeats 4000000 in
set_option maxRecDepth 100000 in
theorem c_X0_mixWheel_1 (l : Launch) (D : va_G) (ty : Nat → ClassId) (ad : Nat → Nat) (u : CarS) (hh : Int64) (hO : CarOK u) : MC l D ty yX0_mixWheel cX0_mixWheel 7 (some .long) 3 [.ref (ad 0), .long hh, .int 1] [((ad 0), caE (u.1 0) (ad 1) (ad 2) (ad 11) (ad 15) (ad 19)), ((ad 2), waE ty (ad 3) (ad 4) (ad 5) (ad 6)), ((ad 4), whE (u.1 3) (ad 8)), ((ad 15), roE (u.2 2) (ad 16) (ad 17) (ad 18)), ((ad 16), arE ty 12 (u.1 13)), ((ad 17), arE ty 12 (u.1 14)), ((ad 18), arE ty 12 (u.1 15))] (some (.long (f_X0_mixWheel_1 u hh))) [((ad 0), caE (u.1 0) (ad 1) (ad 2) (ad 11) (ad 15) (ad 19)), ((ad 2), waE ty (ad 3) (ad 4) (ad 5) (ad 6)), ((ad 4), whE (u.1 3) (ad 8)), ((ad 15), roE (u.2 2) (ad 16) (ad 17) (ad 18)), ((ad 16), arE ty 12 (u.1 13)), ((ad 17), arE ty 12 (u.1 14)), ((ad 18), arE ty 12 (u.1 15))] := by
  refine mc_l (by decide +kernel) (Nat.le_of_ble_eq_true rfl) ?_
  intro p e s m args below meth c A Q ls C hK hA X hret hl
  have hx := C.1
  have hb := C.2.1
  have hl : lv_has ls 7 [(0, .ref (ad 0)), (1, .long hh), (3, .int 1)] := hl
  have X : Wd D A s.heap [((ad 0), caE (u.1 0) (ad 1) (ad 2) (ad 11) (ad 15) (ad 19)), ((ad 2), waE ty (ad 3) (ad 4) (ad 5) (ad 6)), ((ad 4), whE (u.1 3) (ad 8)), ((ad 15), roE (u.2 2) (ad 16) (ad 17) (ad 18)), ((ad 16), arE ty 12 (u.1 13)), ((ad 17), arE ty 12 (u.1 14)), ((ad 18), arE ty 12 (u.1 15))] s.heap [] := X
  refine lv_lload_n hx hb dX0_mixWheel_0 rfl (lv_at hl 1 rfl) ?_
  refine lv_lstore (lv' := [(4, .long hh), (0, .ref (ad 0)), (1, .long hh), (3, .int 1)]) hx hb dX0_mixWheel_1 hl (by decide) rfl (fun ls hl => ?_)
  refine lv_iconst (v := 0) hx hb dX0_mixWheel_3 (by decide) ?_
  refine lv_istore (lv' := [(6, .int 0), (4, .long hh), (0, .ref (ad 0)), (1, .long hh), (3, .int 1)]) hx hb dX0_mixWheel_4 hl (by decide) rfl (fun ls hl => ?_)
  have K1 : ∀ (y1_0 : Int32) (y1_1 : Int64) (ls : Array Slot) (H : Heap) (locs : List Loc), y1_0 = 12 → y1_1 = (mixWh1 u hh 12) → lv_has ls 7 [(6, .int y1_0), (4, .long y1_1), (0, .ref (ad 0)), (1, .long hh), (3, .int 1)] → Wd D A s.heap [((ad 0), caE (u.1 0) (ad 1) (ad 2) (ad 11) (ad 15) (ad 19)), ((ad 2), waE ty (ad 3) (ad 4) (ad 5) (ad 6)), ((ad 4), whE (u.1 3) (ad 8)), ((ad 15), roE (u.2 2) (ad 16) (ad 17) (ad 18)), ((ad 16), arE ty 12 (u.1 13)), ((ad 17), arE ty 12 (u.1 14)), ((ad 18), arE ty 12 (u.1 15))] H locs → W p l e (rmD 3) s m args below meth c H locs 0 0 Q (F0 m 33 ls []) := by
    intro y1_0 y1_1 ls H locs ey1_0 ey1_1 hl X
    subst ey1_0; subst ey1_1
    refine lv_lload hx hb dX0_mixWheel_33 (lv_at hl 1 rfl) ?_
    refine lv_aload_n hx hb dX0_mixWheel_35 rfl (lv_at hl 2 rfl) ?_
    refine lv_iload_n hx hb dX0_mixWheel_36 rfl (lv_at hl 4 rfl) ?_
    refine s_cV0i C hK hA X (c_X0_gripOfWheel_1 l D ty (ad 0) (ad 1) (ad 2) (ad 11) (ad 15) (ad 19) (ad 3) (ad 4) (ad 5) (ad 6) (ad 8) (ad 16) (ad 17) (ad 18) (u.2 2) (u.1 0) (u.1 3) (u.1 13) (u.1 14) (u.1 15) hO.2.2.2.2.2.1) [0, 1, 2, 3, 4, 5, 6] (pk_c rfl (pk_c rfl (pk_c rfl (pk_c rfl (pk_c rfl (pk_c rfl (pk_c rfl pk_n))))))) rfl ml_X0_gripOfWheel wm_X0_109 (q0 := 0) rfl rfl rfl ⟨Nat.le_of_ble_eq_true rfl, Nat.le_of_ble_eq_true rfl⟩ ⟨Nat.zero_le _, Nat.zero_le _⟩ hl.1 rfl (Nat.le_of_ble_eq_true rfl) dX0_mixWheel_37 (fun H locs X => ?_)
    refine s_cN0l C hK hA X (c_X6_mix l D ty (mixWh1 u hh 12) (f_X0_gripOfWheel_1 (u.2 2) (u.1 0) (u.1 3) (u.1 13) (u.1 14) (u.1 15))) [] pk_n rfl sl_X6_mix nw_X0_184 ⟨Nat.le_of_ble_eq_true rfl, Nat.le_of_ble_eq_true rfl⟩ ⟨Nat.zero_le _, Nat.zero_le _⟩ hl.1 rfl (Nat.le_of_ble_eq_true rfl) dX0_mixWheel_40 (fun H locs X => ?_)
    refine lv_lstore (lv' := [(4, .long (f_X6_mix (mixWh1 u hh 12) (f_X0_gripOfWheel_1 (u.2 2) (u.1 0) (u.1 3) (u.1 13) (u.1 14) (u.1 15)))), (6, .int 12), (0, .ref (ad 0)), (1, .long hh), (3, .int 1)]) hx hb dX0_mixWheel_43 hl (by decide) rfl (fun ls hl => ?_)
    refine lv_lload hx hb dX0_mixWheel_45 (lv_at hl 0 rfl) ?_
    refine lv_aload_n hx hb dX0_mixWheel_47 rfl (lv_at hl 2 rfl) ?_
    refine get_ca_1 C hK X 0 rfl fl_X0_22 dX0_mixWheel_48 ?_
    refine lv_iload_n hx hb dX0_mixWheel_51 rfl (lv_at hl 4 rfl) ?_
    refine s_aald (t0 := 2) (b := (ad 4)) C hK X 1 rfl rfl (vp_in_nI (n := 1) (by decide) (by decide)) rfl dX0_mixWheel_52 ?_
    refine get_wh_9 C hK X 2 rfl fl_X0_202 dX0_mixWheel_53 ?_
    refine s_cN0i C hK hA X (c_X6_asNumber l D ty ((u.1 3) 9)) [] pk_n rfl sl_X6_asNumber nw_X0_142 ⟨Nat.le_of_ble_eq_true rfl, Nat.le_of_ble_eq_true rfl⟩ ⟨Nat.zero_le _, Nat.zero_le _⟩ hl.1 rfl (Nat.le_of_ble_eq_true rfl) dX0_mixWheel_56 (fun H locs X => ?_)
    refine s_cN0l C hK hA X (c_X6_mix l D ty (f_X6_mix (mixWh1 u hh 12) (f_X0_gripOfWheel_1 (u.2 2) (u.1 0) (u.1 3) (u.1 13) (u.1 14) (u.1 15))) (f_X6_asNumber ((u.1 3) 9))) [] pk_n rfl sl_X6_mix nw_X0_184 ⟨Nat.le_of_ble_eq_true rfl, Nat.le_of_ble_eq_true rfl⟩ ⟨Nat.zero_le _, Nat.zero_le _⟩ hl.1 rfl (Nat.le_of_ble_eq_true rfl) dX0_mixWheel_59 (fun H locs X => ?_)
    exact hret _ _ _ _ _ _ dX0_mixWheel_62 X rfl (by first | (rw [f_X0_mixWheel_1]; done) | (rw [f_X0_mixWheel_1]; rfl) | (simp only [f_X0_mixWheel_1]; done))
  have L1 : ∀ (kf i : Nat) (y1_0 : Int32) (y1_1 : Int64) (ls : Array Slot) (H : Heap) (locs : List Loc), 12 - i < kf → (i ≤ 12) → y1_0 = (nI i) → y1_1 = (mixWh1 u hh i) → lv_has ls 7 [(6, .int y1_0), (4, .long y1_1), (0, .ref (ad 0)), (1, .long hh), (3, .int 1)] → Wd D A s.heap [((ad 0), caE (u.1 0) (ad 1) (ad 2) (ad 11) (ad 15) (ad 19)), ((ad 2), waE ty (ad 3) (ad 4) (ad 5) (ad 6)), ((ad 4), whE (u.1 3) (ad 8)), ((ad 15), roE (u.2 2) (ad 16) (ad 17) (ad 18)), ((ad 16), arE ty 12 (u.1 13)), ((ad 17), arE ty 12 (u.1 14)), ((ad 18), arE ty 12 (u.1 15))] H locs → W p l e (rmD 3) s m args below meth c H locs 0 0 Q (F0 m 6 ls []) := by
    intro kf
    induction kf with
    | zero => intro i y1_0 y1_1 ls H locs hk; exact absurd hk (Nat.not_lt_zero _)
    | succ kf ih1 =>
      intro i y1_0 y1_1 ls H locs hk hI ey1_0 ey1_1 hl X
      subst ey1_0; subst ey1_1
      refine lv_iload hx hb dX0_mixWheel_6 (lv_at hl 0 rfl) ?_
      refine lv_bipush (v := 12) hx hb dX0_mixWheel_8 (by decide) ?_
      refine lv_icmp_ge (tgt := 33) hx hb dX0_mixWheel_10 (by decide) (fun c0_0 => ?_) (fun c0_0 => ?_)
      · have hE : i = 12 := eq_of_nIle (a := 12) (by decide) (by omega) hI c0_0
        exact K1 (nI i) (mixWh1 u hh i) _ _ _ (by rw [hE]; rfl) (by rw [hE]) (lv_sub hl [0, 1, 2, 3, 4] rfl) X
      · refine lv_lload hx hb dX0_mixWheel_13 (lv_at hl 1 rfl) ?_
        refine lv_aload_n hx hb dX0_mixWheel_15 rfl (lv_at hl 2 rfl) ?_
        refine lv_iload_n hx hb dX0_mixWheel_16 rfl (lv_at hl 4 rfl) ?_
        refine lv_iload hx hb dX0_mixWheel_17 (lv_at hl 0 rfl) ?_
        refine s_cV0i C hK hA X (c_X0_wheelValue_1 l D ty ad u (nI i)) [0, 1, 2] (pk_c rfl (pk_c rfl (pk_c rfl pk_n))) rfl ml_X0_wheelValue wm_X0_199 (q0 := 0) rfl rfl rfl ⟨Nat.le_of_ble_eq_true rfl, Nat.le_of_ble_eq_true rfl⟩ ⟨Nat.zero_le _, Nat.zero_le _⟩ hl.1 rfl (Nat.le_of_ble_eq_true rfl) dX0_mixWheel_19 (fun H locs X => ?_)
        refine s_cN0l C hK hA X (c_X6_mix l D ty (mixWh1 u hh i) (f_X0_wheelValue_1 u (nI i))) [] pk_n rfl sl_X6_mix nw_X0_184 ⟨Nat.le_of_ble_eq_true rfl, Nat.le_of_ble_eq_true rfl⟩ ⟨Nat.zero_le _, Nat.zero_le _⟩ hl.1 rfl (Nat.le_of_ble_eq_true rfl) dX0_mixWheel_22 (fun H locs X => ?_)
        refine lv_lstore (lv' := [(4, .long (f_X6_mix (mixWh1 u hh i) (f_X0_wheelValue_1 u (nI i)))), (6, .int (nI i)), (0, .ref (ad 0)), (1, .long hh), (3, .int 1)]) hx hb dX0_mixWheel_25 hl (by decide) rfl (fun ls hl => ?_)
        refine lv_iinc (v := ((nI i) + 1)) (lv' := [(6, .int ((nI i) + 1)), (4, .long (f_X6_mix (mixWh1 u hh i) (f_X0_wheelValue_1 u (nI i)))), (0, .ref (ad 0)), (1, .long hh), (3, .int 1)]) hx hb dX0_mixWheel_27 hl (k := 1) rfl rfl (by decide) rfl (fun ls hl => ?_)
        refine lv_goto (tgt := 6) hx hb dX0_mixWheel_30 (by decide) ?_
        have h1 : i < 12 := lt_of_nnIle (a := 12) (b := i) (by decide) (by omega) c0_0
        exact ih1 (i + 1) ((nI i) + 1) (f_X6_mix (mixWh1 u hh i) (f_X0_wheelValue_1 u (nI i))) _ _ _ (by omega) (by have := lt_of_nnIle (a := 12) (b := i) (by decide) (by omega) c0_0; omega) (nI_1 i) rfl (lv_sub hl [0, 1, 2, 3, 4] rfl) X
  exact L1 (12 + 1) 0 0 hh _ _ _ (by omega) (Nat.zero_le _) rfl rfl (lv_sub hl [0, 1, 2, 3, 4] rfl) X
def mixWh2 (u : CarS) (h : Int64) : Nat → Int64
  | 0 => h
  | i + 1 => f_X6_mix (mixWh2 u h i) (f_X0_wheelValue_2 u (nI i))
def f_X0_mixWheel_2 (u : CarS) (hh : Int64) : Int64 := (f_X6_mix (f_X6_mix (mixWh2 u hh 12) (f_X0_gripOfWheel_2 (u.2 2) (u.1 0) (u.1 4) (u.1 13) (u.1 14) (u.1 15))) (f_X6_asNumber ((u.1 4) 9)))
set_option maxHeartbeats 4000000 in
set_option maxRecDepth 100000 in
theorem c_X0_mixWheel_2 (l : Launch) (D : va_G) (ty : Nat → ClassId) (ad : Nat → Nat) (u : CarS) (hh : Int64) (hO : CarOK u) : MC l D ty yX0_mixWheel cX0_mixWheel 7 (some .long) 3 [.ref (ad 0), .long hh, .int 2] [((ad 0), caE (u.1 0) (ad 1) (ad 2) (ad 11) (ad 15) (ad 19)), ((ad 2), waE ty (ad 3) (ad 4) (ad 5) (ad 6)), ((ad 5), whE (u.1 4) (ad 9)), ((ad 15), roE (u.2 2) (ad 16) (ad 17) (ad 18)), ((ad 16), arE ty 12 (u.1 13)), ((ad 17), arE ty 12 (u.1 14)), ((ad 18), arE ty 12 (u.1 15))] (some (.long (f_X0_mixWheel_2 u hh))) [((ad 0), caE (u.1 0) (ad 1) (ad 2) (ad 11) (ad 15) (ad 19)), ((ad 2), waE ty (ad 3) (ad 4) (ad 5) (ad 6)), ((ad 5), whE (u.1 4) (ad 9)), ((ad 15), roE (u.2 2) (ad 16) (ad 17) (ad 18)), ((ad 16), arE ty 12 (u.1 13)), ((ad 17), arE ty 12 (u.1 14)), ((ad 18), arE ty 12 (u.1 15))] := by
  refine mc_l (by decide +kernel) (Nat.le_of_ble_eq_true rfl) ?_
  intro p e s m args below meth c A Q ls C hK hA X hret hl
  have hx := C.1
  have hb := C.2.1
  have hl : lv_has ls 7 [(0, .ref (ad 0)), (1, .long hh), (3, .int 2)] := hl
  have X : Wd D A s.heap [((ad 0), caE (u.1 0) (ad 1) (ad 2) (ad 11) (ad 15) (ad 19)), ((ad 2), waE ty (ad 3) (ad 4) (ad 5) (ad 6)), ((ad 5), whE (u.1 4) (ad 9)), ((ad 15), roE (u.2 2) (ad 16) (ad 17) (ad 18)), ((ad 16), arE ty 12 (u.1 13)), ((ad 17), arE ty 12 (u.1 14)), ((ad 18), arE ty 12 (u.1 15))] s.heap [] := X
  refine lv_lload_n hx hb dX0_mixWheel_0 rfl (lv_at hl 1 rfl) ?_
  refine lv_lstore (lv' := [(4, .long hh), (0, .ref (ad 0)), (1, .long hh), (3, .int 2)]) hx hb dX0_mixWheel_1 hl (by decide) rfl (fun ls hl => ?_)
  refine lv_iconst (v := 0) hx hb dX0_mixWheel_3 (by decide) ?_
  refine lv_istore (lv' := [(6, .int 0), (4, .long hh), (0, .ref (ad 0)), (1, .long hh), (3, .int 2)]) hx hb dX0_mixWheel_4 hl (by decide) rfl (fun ls hl => ?_)
  have K1 : ∀ (y1_0 : Int32) (y1_1 : Int64) (ls : Array Slot) (H : Heap) (locs : List Loc), y1_0 = 12 → y1_1 = (mixWh2 u hh 12) → lv_has ls 7 [(6, .int y1_0), (4, .long y1_1), (0, .ref (ad 0)), (1, .long hh), (3, .int 2)] → Wd D A s.heap [((ad 0), caE (u.1 0) (ad 1) (ad 2) (ad 11) (ad 15) (ad 19)), ((ad 2), waE ty (ad 3) (ad 4) (ad 5) (ad 6)), ((ad 5), whE (u.1 4) (ad 9)), ((ad 15), roE (u.2 2) (ad 16) (ad 17) (ad 18)), ((ad 16), arE ty 12 (u.1 13)), ((ad 17), arE ty 12 (u.1 14)), ((ad 18), arE ty 12 (u.1 15))] H locs → W p l e (rmD 3) s m args below meth c H locs 0 0 Q (F0 m 33 ls []) := by
    intro y1_0 y1_1 ls H locs ey1_0 ey1_1 hl X
    subst ey1_0; subst ey1_1
    refine lv_lload hx hb dX0_mixWheel_33 (lv_at hl 1 rfl) ?_
    refine lv_aload_n hx hb dX0_mixWheel_35 rfl (lv_at hl 2 rfl) ?_
    refine lv_iload_n hx hb dX0_mixWheel_36 rfl (lv_at hl 4 rfl) ?_
    refine s_cV0i C hK hA X (c_X0_gripOfWheel_2 l D ty (ad 0) (ad 1) (ad 2) (ad 11) (ad 15) (ad 19) (ad 3) (ad 4) (ad 5) (ad 6) (ad 9) (ad 16) (ad 17) (ad 18) (u.2 2) (u.1 0) (u.1 4) (u.1 13) (u.1 14) (u.1 15) hO.2.2.2.2.2.1) [0, 1, 2, 3, 4, 5, 6] (pk_c rfl (pk_c rfl (pk_c rfl (pk_c rfl (pk_c rfl (pk_c rfl (pk_c rfl pk_n))))))) rfl ml_X0_gripOfWheel wm_X0_109 (q0 := 0) rfl rfl rfl ⟨Nat.le_of_ble_eq_true rfl, Nat.le_of_ble_eq_true rfl⟩ ⟨Nat.zero_le _, Nat.zero_le _⟩ hl.1 rfl (Nat.le_of_ble_eq_true rfl) dX0_mixWheel_37 (fun H locs X => ?_)
    refine s_cN0l C hK hA X (c_X6_mix l D ty (mixWh2 u hh 12) (f_X0_gripOfWheel_2 (u.2 2) (u.1 0) (u.1 4) (u.1 13) (u.1 14) (u.1 15))) [] pk_n rfl sl_X6_mix nw_X0_184 ⟨Nat.le_of_ble_eq_true rfl, Nat.le_of_ble_eq_true rfl⟩ ⟨Nat.zero_le _, Nat.zero_le _⟩ hl.1 rfl (Nat.le_of_ble_eq_true rfl) dX0_mixWheel_40 (fun H locs X => ?_)
    refine lv_lstore (lv' := [(4, .long (f_X6_mix (mixWh2 u hh 12) (f_X0_gripOfWheel_2 (u.2 2) (u.1 0) (u.1 4) (u.1 13) (u.1 14) (u.1 15)))), (6, .int 12), (0, .ref (ad 0)), (1, .long hh), (3, .int 2)]) hx hb dX0_mixWheel_43 hl (by decide) rfl (fun ls hl => ?_)
    refine lv_lload hx hb dX0_mixWheel_45 (lv_at hl 0 rfl) ?_
    refine lv_aload_n hx hb dX0_mixWheel_47 rfl (lv_at hl 2 rfl) ?_
    refine get_ca_1 C hK X 0 rfl fl_X0_22 dX0_mixWheel_48 ?_
    refine lv_iload_n hx hb dX0_mixWheel_51 rfl (lv_at hl 4 rfl) ?_
    refine s_aald (t0 := 2) (b := (ad 5)) C hK X 1 rfl rfl (vp_in_nI (n := 2) (by decide) (by decide)) rfl dX0_mixWheel_52 ?_
    refine get_wh_9 C hK X 2 rfl fl_X0_202 dX0_mixWheel_53 ?_
    refine s_cN0i C hK hA X (c_X6_asNumber l D ty ((u.1 4) 9)) [] pk_n rfl sl_X6_asNumber nw_X0_142 ⟨Nat.le_of_ble_eq_true rfl, Nat.le_of_ble_eq_true rfl⟩ ⟨Nat.zero_le _, Nat.zero_le _⟩ hl.1 rfl (Nat.le_of_ble_eq_true rfl) dX0_mixWheel_56 (fun H locs X => ?_)
    refine s_cN0l C hK hA X (c_X6_mix l D ty (f_X6_mix (mixWh2 u hh 12) (f_X0_gripOfWheel_2 (u.2 2) (u.1 0) (u.1 4) (u.1 13) (u.1 14) (u.1 15))) (f_X6_asNumber ((u.1 4) 9))) [] pk_n rfl sl_X6_mix nw_X0_184 ⟨Nat.le_of_ble_eq_true rfl, Nat.le_of_ble_eq_true rfl⟩ ⟨Nat.zero_le _, Nat.zero_le _⟩ hl.1 rfl (Nat.le_of_ble_eq_true rfl) dX0_mixWheel_59 (fun H locs X => ?_)
    exact hret _ _ _ _ _ _ dX0_mixWheel_62 X rfl (by first | (rw [f_X0_mixWheel_2]; done) | (rw [f_X0_mixWheel_2]; rfl) | (simp only [f_X0_mixWheel_2]; done))
  have L1 : ∀ (kf i : Nat) (y1_0 : Int32) (y1_1 : Int64) (ls : Array Slot) (H : Heap) (locs : List Loc), 12 - i < kf → (i ≤ 12) → y1_0 = (nI i) → y1_1 = (mixWh2 u hh i) → lv_has ls 7 [(6, .int y1_0), (4, .long y1_1), (0, .ref (ad 0)), (1, .long hh), (3, .int 2)] → Wd D A s.heap [((ad 0), caE (u.1 0) (ad 1) (ad 2) (ad 11) (ad 15) (ad 19)), ((ad 2), waE ty (ad 3) (ad 4) (ad 5) (ad 6)), ((ad 5), whE (u.1 4) (ad 9)), ((ad 15), roE (u.2 2) (ad 16) (ad 17) (ad 18)), ((ad 16), arE ty 12 (u.1 13)), ((ad 17), arE ty 12 (u.1 14)), ((ad 18), arE ty 12 (u.1 15))] H locs → W p l e (rmD 3) s m args below meth c H locs 0 0 Q (F0 m 6 ls []) := by
    intro kf
    induction kf with
    | zero => intro i y1_0 y1_1 ls H locs hk; exact absurd hk (Nat.not_lt_zero _)
    | succ kf ih1 =>
      intro i y1_0 y1_1 ls H locs hk hI ey1_0 ey1_1 hl X
      subst ey1_0; subst ey1_1
      refine lv_iload hx hb dX0_mixWheel_6 (lv_at hl 0 rfl) ?_
      refine lv_bipush (v := 12) hx hb dX0_mixWheel_8 (by decide) ?_
      refine lv_icmp_ge (tgt := 33) hx hb dX0_mixWheel_10 (by decide) (fun c0_0 => ?_) (fun c0_0 => ?_)
      · have hE : i = 12 := eq_of_nIle (a := 12) (by decide) (by omega) hI c0_0
        exact K1 (nI i) (mixWh2 u hh i) _ _ _ (by rw [hE]; rfl) (by rw [hE]) (lv_sub hl [0, 1, 2, 3, 4] rfl) X
      · refine lv_lload hx hb dX0_mixWheel_13 (lv_at hl 1 rfl) ?_
        refine lv_aload_n hx hb dX0_mixWheel_15 rfl (lv_at hl 2 rfl) ?_
        refine lv_iload_n hx hb dX0_mixWheel_16 rfl (lv_at hl 4 rfl) ?_
        refine lv_iload hx hb dX0_mixWheel_17 (lv_at hl 0 rfl) ?_
        refine s_cV0i C hK hA X (c_X0_wheelValue_2 l D ty ad u (nI i)) [0, 1, 2] (pk_c rfl (pk_c rfl (pk_c rfl pk_n))) rfl ml_X0_wheelValue wm_X0_199 (q0 := 0) rfl rfl rfl ⟨Nat.le_of_ble_eq_true rfl, Nat.le_of_ble_eq_true rfl⟩ ⟨Nat.zero_le _, Nat.zero_le _⟩ hl.1 rfl (Nat.le_of_ble_eq_true rfl) dX0_mixWheel_19 (fun H locs X => ?_)
        refine s_cN0l C hK hA X (c_X6_mix l D ty (mixWh2 u hh i) (f_X0_wheelValue_2 u (nI i))) [] pk_n rfl sl_X6_mix nw_X0_184 ⟨Nat.le_of_ble_eq_true rfl, Nat.le_of_ble_eq_true rfl⟩ ⟨Nat.zero_le _, Nat.zero_le _⟩ hl.1 rfl (Nat.le_of_ble_eq_true rfl) dX0_mixWheel_22 (fun H locs X => ?_)
        refine lv_lstore (lv' := [(4, .long (f_X6_mix (mixWh2 u hh i) (f_X0_wheelValue_2 u (nI i)))), (6, .int (nI i)), (0, .ref (ad 0)), (1, .long hh), (3, .int 2)]) hx hb dX0_mixWheel_25 hl (by decide) rfl (fun ls hl => ?_)
        refine lv_iinc (v := ((nI i) + 1)) (lv' := [(6, .int ((nI i) + 1)), (4, .long (f_X6_mix (mixWh2 u hh i) (f_X0_wheelValue_2 u (nI i)))), (0, .ref (ad 0)), (1, .long hh), (3, .int 2)]) hx hb dX0_mixWheel_27 hl (k := 1) rfl rfl (by decide) rfl (fun ls hl => ?_)
        refine lv_goto (tgt := 6) hx hb dX0_mixWheel_30 (by decide) ?_
        have h1 : i < 12 := lt_of_nnIle (a := 12) (b := i) (by decide) (by omega) c0_0
        exact ih1 (i + 1) ((nI i) + 1) (f_X6_mix (mixWh2 u hh i) (f_X0_wheelValue_2 u (nI i))) _ _ _ (by omega) (by have := lt_of_nnIle (a := 12) (b := i) (by decide) (by omega) c0_0; omega) (nI_1 i) rfl (lv_sub hl [0, 1, 2, 3, 4] rfl) X
  exact L1 (12 + 1) 0 0 hh _ _ _ (by omega) (Nat.zero_le _) rfl rfl (lv_sub hl [0, 1, 2, 3, 4] rfl) X
def mixWh3 (u : CarS) (h : Int64) : Nat → Int64
  | 0 => h
  | i + 1 => f_X6_mix (mixWh3 u h i) (f_X0_wheelValue_3 u (nI i))
def f_X0_mixWheel_3 (u : CarS) (hh : Int64) : Int64 := (f_X6_mix (f_X6_mix (mixWh3 u hh 12) (f_X0_gripOfWheel_3 (u.2 2) (u.1 0) (u.1 5) (u.1 13) (u.1 14) (u.1 15))) (f_X6_asNumber ((u.1 5) 9)))
set_option maxHeartbeats 4000000 in
set_option maxRecDepth 100000 in
theorem c_X0_mixWheel_3 (l : Launch) (D : va_G) (ty : Nat → ClassId) (ad : Nat → Nat) (u : CarS) (hh : Int64) (hO : CarOK u) : MC l D ty yX0_mixWheel cX0_mixWheel 7 (some .long) 3 [.ref (ad 0), .long hh, .int 3] [((ad 0), caE (u.1 0) (ad 1) (ad 2) (ad 11) (ad 15) (ad 19)), ((ad 2), waE ty (ad 3) (ad 4) (ad 5) (ad 6)), ((ad 6), whE (u.1 5) (ad 10)), ((ad 15), roE (u.2 2) (ad 16) (ad 17) (ad 18)), ((ad 16), arE ty 12 (u.1 13)), ((ad 17), arE ty 12 (u.1 14)), ((ad 18), arE ty 12 (u.1 15))] (some (.long (f_X0_mixWheel_3 u hh))) [((ad 0), caE (u.1 0) (ad 1) (ad 2) (ad 11) (ad 15) (ad 19)), ((ad 2), waE ty (ad 3) (ad 4) (ad 5) (ad 6)), ((ad 6), whE (u.1 5) (ad 10)), ((ad 15), roE (u.2 2) (ad 16) (ad 17) (ad 18)), ((ad 16), arE ty 12 (u.1 13)), ((ad 17), arE ty 12 (u.1 14)), ((ad 18), arE ty 12 (u.1 15))] := by
  refine mc_l (by decide +kernel) (Nat.le_of_ble_eq_true rfl) ?_
  intro p e s m args below meth c A Q ls C hK hA X hret hl
  have hx := C.1
  have hb := C.2.1
  have hl : lv_has ls 7 [(0, .ref (ad 0)), (1, .long hh), (3, .int 3)] := hl
  have X : Wd D A s.heap [((ad 0), caE (u.1 0) (ad 1) (ad 2) (ad 11) (ad 15) (ad 19)), ((ad 2), waE ty (ad 3) (ad 4) (ad 5) (ad 6)), ((ad 6), whE (u.1 5) (ad 10)), ((ad 15), roE (u.2 2) (ad 16) (ad 17) (ad 18)), ((ad 16), arE ty 12 (u.1 13)), ((ad 17), arE ty 12 (u.1 14)), ((ad 18), arE ty 12 (u.1 15))] s.heap [] := X
  refine lv_lload_n hx hb dX0_mixWheel_0 rfl (lv_at hl 1 rfl) ?_
  refine lv_lstore (lv' := [(4, .long hh), (0, .ref (ad 0)), (1, .long hh), (3, .int 3)]) hx hb dX0_mixWheel_1 hl (by decide) rfl (fun ls hl => ?_)
  refine lv_iconst (v := 0) hx hb dX0_mixWheel_3 (by decide) ?_
  refine lv_istore (lv' := [(6, .int 0), (4, .long hh), (0, .ref (ad 0)), (1, .long hh), (3, .int 3)]) hx hb dX0_mixWheel_4 hl (by decide) rfl (fun ls hl => ?_)
  have K1 : ∀ (y1_0 : Int32) (y1_1 : Int64) (ls : Array Slot) (H : Heap) (locs : List Loc), y1_0 = 12 → y1_1 = (mixWh3 u hh 12) → lv_has ls 7 [(6, .int y1_0), (4, .long y1_1), (0, .ref (ad 0)), (1, .long hh), (3, .int 3)] → Wd D A s.heap [((ad 0), caE (u.1 0) (ad 1) (ad 2) (ad 11) (ad 15) (ad 19)), ((ad 2), waE ty (ad 3) (ad 4) (ad 5) (ad 6)), ((ad 6), whE (u.1 5) (ad 10)), ((ad 15), roE (u.2 2) (ad 16) (ad 17) (ad 18)), ((ad 16), arE ty 12 (u.1 13)), ((ad 17), arE ty 12 (u.1 14)), ((ad 18), arE ty 12 (u.1 15))] H locs → W p l e (rmD 3) s m args below meth c H locs 0 0 Q (F0 m 33 ls []) := by
    intro y1_0 y1_1 ls H locs ey1_0 ey1_1 hl X
    subst ey1_0; subst ey1_1
    refine lv_lload hx hb dX0_mixWheel_33 (lv_at hl 1 rfl) ?_
    refine lv_aload_n hx hb dX0_mixWheel_35 rfl (lv_at hl 2 rfl) ?_
    refine lv_iload_n hx hb dX0_mixWheel_36 rfl (lv_at hl 4 rfl) ?_
    refine s_cV0i C hK hA X (c_X0_gripOfWheel_3 l D ty (ad 0) (ad 1) (ad 2) (ad 11) (ad 15) (ad 19) (ad 3) (ad 4) (ad 5) (ad 6) (ad 10) (ad 16) (ad 17) (ad 18) (u.2 2) (u.1 0) (u.1 5) (u.1 13) (u.1 14) (u.1 15) hO.2.2.2.2.2.1) [0, 1, 2, 3, 4, 5, 6] (pk_c rfl (pk_c rfl (pk_c rfl (pk_c rfl (pk_c rfl (pk_c rfl (pk_c rfl pk_n))))))) rfl ml_X0_gripOfWheel wm_X0_109 (q0 := 0) rfl rfl rfl ⟨Nat.le_of_ble_eq_true rfl, Nat.le_of_ble_eq_true rfl⟩ ⟨Nat.zero_le _, Nat.zero_le _⟩ hl.1 rfl (Nat.le_of_ble_eq_true rfl) dX0_mixWheel_37 (fun H locs X => ?_)
    refine s_cN0l C hK hA X (c_X6_mix l D ty (mixWh3 u hh 12) (f_X0_gripOfWheel_3 (u.2 2) (u.1 0) (u.1 5) (u.1 13) (u.1 14) (u.1 15))) [] pk_n rfl sl_X6_mix nw_X0_184 ⟨Nat.le_of_ble_eq_true rfl, Nat.le_of_ble_eq_true rfl⟩ ⟨Nat.zero_le _, Nat.zero_le _⟩ hl.1 rfl (Nat.le_of_ble_eq_true rfl) dX0_mixWheel_40 (fun H locs X => ?_)
    refine lv_lstore (lv' := [(4, .long (f_X6_mix (mixWh3 u hh 12) (f_X0_gripOfWheel_3 (u.2 2) (u.1 0) (u.1 5) (u.1 13) (u.1 14) (u.1 15)))), (6, .int 12), (0, .ref (ad 0)), (1, .long hh), (3, .int 3)]) hx hb dX0_mixWheel_43 hl (by decide) rfl (fun ls hl => ?_)
    refine lv_lload hx hb dX0_mixWheel_45 (lv_at hl 0 rfl) ?_
    refine lv_aload_n hx hb dX0_mixWheel_47 rfl (lv_at hl 2 rfl) ?_
    refine get_ca_1 C hK X 0 rfl fl_X0_22 dX0_mixWheel_48 ?_
    refine lv_iload_n hx hb dX0_mixWheel_51 rfl (lv_at hl 4 rfl) ?_
    refine s_aald (t0 := 2) (b := (ad 6)) C hK X 1 rfl rfl (vp_in_nI (n := 3) (by decide) (by decide)) rfl dX0_mixWheel_52 ?_
    refine get_wh_9 C hK X 2 rfl fl_X0_202 dX0_mixWheel_53 ?_
    refine s_cN0i C hK hA X (c_X6_asNumber l D ty ((u.1 5) 9)) [] pk_n rfl sl_X6_asNumber nw_X0_142 ⟨Nat.le_of_ble_eq_true rfl, Nat.le_of_ble_eq_true rfl⟩ ⟨Nat.zero_le _, Nat.zero_le _⟩ hl.1 rfl (Nat.le_of_ble_eq_true rfl) dX0_mixWheel_56 (fun H locs X => ?_)
    refine s_cN0l C hK hA X (c_X6_mix l D ty (f_X6_mix (mixWh3 u hh 12) (f_X0_gripOfWheel_3 (u.2 2) (u.1 0) (u.1 5) (u.1 13) (u.1 14) (u.1 15))) (f_X6_asNumber ((u.1 5) 9))) [] pk_n rfl sl_X6_mix nw_X0_184 ⟨Nat.le_of_ble_eq_true rfl, Nat.le_of_ble_eq_true rfl⟩ ⟨Nat.zero_le _, Nat.zero_le _⟩ hl.1 rfl (Nat.le_of_ble_eq_true rfl) dX0_mixWheel_59 (fun H locs X => ?_)
    exact hret _ _ _ _ _ _ dX0_mixWheel_62 X rfl (by first | (rw [f_X0_mixWheel_3]; done) | (rw [f_X0_mixWheel_3]; rfl) | (simp only [f_X0_mixWheel_3]; done))
  have L1 : ∀ (kf i : Nat) (y1_0 : Int32) (y1_1 : Int64) (ls : Array Slot) (H : Heap) (locs : List Loc), 12 - i < kf → (i ≤ 12) → y1_0 = (nI i) → y1_1 = (mixWh3 u hh i) → lv_has ls 7 [(6, .int y1_0), (4, .long y1_1), (0, .ref (ad 0)), (1, .long hh), (3, .int 3)] → Wd D A s.heap [((ad 0), caE (u.1 0) (ad 1) (ad 2) (ad 11) (ad 15) (ad 19)), ((ad 2), waE ty (ad 3) (ad 4) (ad 5) (ad 6)), ((ad 6), whE (u.1 5) (ad 10)), ((ad 15), roE (u.2 2) (ad 16) (ad 17) (ad 18)), ((ad 16), arE ty 12 (u.1 13)), ((ad 17), arE ty 12 (u.1 14)), ((ad 18), arE ty 12 (u.1 15))] H locs → W p l e (rmD 3) s m args below meth c H locs 0 0 Q (F0 m 6 ls []) := by
    intro kf
    induction kf with
    | zero => intro i y1_0 y1_1 ls H locs hk; exact absurd hk (Nat.not_lt_zero _)
    | succ kf ih1 =>
      intro i y1_0 y1_1 ls H locs hk hI ey1_0 ey1_1 hl X
      subst ey1_0; subst ey1_1
      refine lv_iload hx hb dX0_mixWheel_6 (lv_at hl 0 rfl) ?_
      refine lv_bipush (v := 12) hx hb dX0_mixWheel_8 (by decide) ?_
      refine lv_icmp_ge (tgt := 33) hx hb dX0_mixWheel_10 (by decide) (fun c0_0 => ?_) (fun c0_0 => ?_)
      · have hE : i = 12 := eq_of_nIle (a := 12) (by decide) (by omega) hI c0_0
        exact K1 (nI i) (mixWh3 u hh i) _ _ _ (by rw [hE]; rfl) (by rw [hE]) (lv_sub hl [0, 1, 2, 3, 4] rfl) X
      · refine lv_lload hx hb dX0_mixWheel_13 (lv_at hl 1 rfl) ?_
        refine lv_aload_n hx hb dX0_mixWheel_15 rfl (lv_at hl 2 rfl) ?_
        refine lv_iload_n hx hb dX0_mixWheel_16 rfl (lv_at hl 4 rfl) ?_
        refine lv_iload hx hb dX0_mixWheel_17 (lv_at hl 0 rfl) ?_
        refine s_cV0i C hK hA X (c_X0_wheelValue_3 l D ty ad u (nI i)) [0, 1, 2] (pk_c rfl (pk_c rfl (pk_c rfl pk_n))) rfl ml_X0_wheelValue wm_X0_199 (q0 := 0) rfl rfl rfl ⟨Nat.le_of_ble_eq_true rfl, Nat.le_of_ble_eq_true rfl⟩ ⟨Nat.zero_le _, Nat.zero_le _⟩ hl.1 rfl (Nat.le_of_ble_eq_true rfl) dX0_mixWheel_19 (fun H locs X => ?_)
        refine s_cN0l C hK hA X (c_X6_mix l D ty (mixWh3 u hh i) (f_X0_wheelValue_3 u (nI i))) [] pk_n rfl sl_X6_mix nw_X0_184 ⟨Nat.le_of_ble_eq_true rfl, Nat.le_of_ble_eq_true rfl⟩ ⟨Nat.zero_le _, Nat.zero_le _⟩ hl.1 rfl (Nat.le_of_ble_eq_true rfl) dX0_mixWheel_22 (fun H locs X => ?_)
        refine lv_lstore (lv' := [(4, .long (f_X6_mix (mixWh3 u hh i) (f_X0_wheelValue_3 u (nI i)))), (6, .int (nI i)), (0, .ref (ad 0)), (1, .long hh), (3, .int 3)]) hx hb dX0_mixWheel_25 hl (by decide) rfl (fun ls hl => ?_)
        refine lv_iinc (v := ((nI i) + 1)) (lv' := [(6, .int ((nI i) + 1)), (4, .long (f_X6_mix (mixWh3 u hh i) (f_X0_wheelValue_3 u (nI i)))), (0, .ref (ad 0)), (1, .long hh), (3, .int 3)]) hx hb dX0_mixWheel_27 hl (k := 1) rfl rfl (by decide) rfl (fun ls hl => ?_)
        refine lv_goto (tgt := 6) hx hb dX0_mixWheel_30 (by decide) ?_
        have h1 : i < 12 := lt_of_nnIle (a := 12) (b := i) (by decide) (by omega) c0_0
        exact ih1 (i + 1) ((nI i) + 1) (f_X6_mix (mixWh3 u hh i) (f_X0_wheelValue_3 u (nI i))) _ _ _ (by omega) (by have := lt_of_nnIle (a := 12) (b := i) (by decide) (by omega) c0_0; omega) (nI_1 i) rfl (lv_sub hl [0, 1, 2, 3, 4] rfl) X
  exact L1 (12 + 1) 0 0 hh _ _ _ (by omega) (Nat.zero_le _) rfl rfl (lv_sub hl [0, 1, 2, 3, 4] rfl) X
def mixCar (u : CarS) (h : Int64) : Nat → Int64
  | 0 => h
  | i + 1 => f_X6_mix (mixCar u h i) (f_X0_carValue u (nI i))
def f_X0_mixInto (u : CarS) (hh : Int64) : Int64 := (f_X2_mixInto (u.2 0) (u.2 1) (u.1 10) (u.1 11) (u.1 12) (f_X4_mixInto (u.2 3) (u.1 16) (u.1 17) (f_X3_mixInto (u.2 2) (u.1 13) (u.1 14) (u.1 15) (f_X0_mixWheel_3 u (f_X0_mixWheel_2 u (f_X0_mixWheel_1 u (f_X0_mixWheel_0 u (mixCar u hh 10))))))))
set_option maxHeartbeats 4000000 in
set_option maxRecDepth 100000 in
theorem c_X0_mixInto (l : Launch) (D : va_G) (ty : Nat → ClassId) (ad : Nat → Nat) (u : CarS) (hh : Int64) (hO : CarOK u) : MC l D ty yX0_mixInto cX0_mixInto 6 (some .long) 4 [.ref (ad 0), .long hh] [((ad 0), caE (u.1 0) (ad 1) (ad 2) (ad 11) (ad 15) (ad 19)), ((ad 1), ctE (u.1 1) (ad 2) (ad 11)), ((ad 2), waE ty (ad 3) (ad 4) (ad 5) (ad 6)), ((ad 3), whE (u.1 2) (ad 7)), ((ad 4), whE (u.1 3) (ad 8)), ((ad 5), whE (u.1 4) (ad 9)), ((ad 6), whE (u.1 5) (ad 10)), ((ad 11), loE (u.2 0) (u.2 1) (ad 12) (ad 13) (ad 14)), ((ad 12), arE ty 40 (u.1 10)), ((ad 13), arE ty 40 (u.1 11)), ((ad 14), arE ty 40 (u.1 12)), ((ad 15), roE (u.2 2) (ad 16) (ad 17) (ad 18)), ((ad 16), arE ty 12 (u.1 13)), ((ad 17), arE ty 12 (u.1 14)), ((ad 18), arE ty 12 (u.1 15)), ((ad 19), scE (u.2 3) (ad 20) (ad 21)), ((ad 20), arE ty 10 (u.1 16)), ((ad 21), arE ty 10 (u.1 17))] (some (.long (f_X0_mixInto u hh))) [((ad 0), caE (u.1 0) (ad 1) (ad 2) (ad 11) (ad 15) (ad 19)), ((ad 1), ctE (u.1 1) (ad 2) (ad 11)), ((ad 2), waE ty (ad 3) (ad 4) (ad 5) (ad 6)), ((ad 3), whE (u.1 2) (ad 7)), ((ad 4), whE (u.1 3) (ad 8)), ((ad 5), whE (u.1 4) (ad 9)), ((ad 6), whE (u.1 5) (ad 10)), ((ad 11), loE (u.2 0) (u.2 1) (ad 12) (ad 13) (ad 14)), ((ad 12), arE ty 40 (u.1 10)), ((ad 13), arE ty 40 (u.1 11)), ((ad 14), arE ty 40 (u.1 12)), ((ad 15), roE (u.2 2) (ad 16) (ad 17) (ad 18)), ((ad 16), arE ty 12 (u.1 13)), ((ad 17), arE ty 12 (u.1 14)), ((ad 18), arE ty 12 (u.1 15)), ((ad 19), scE (u.2 3) (ad 20) (ad 21)), ((ad 20), arE ty 10 (u.1 16)), ((ad 21), arE ty 10 (u.1 17))] := by
  refine mc_l (by decide +kernel) (Nat.le_of_ble_eq_true rfl) ?_
  intro p e s m args below meth c A Q ls C hK hA X hret hl
  have hx := C.1
  have hb := C.2.1
  have hl : lv_has ls 6 [(0, .ref (ad 0)), (1, .long hh)] := hl
  have X : Wd D A s.heap [((ad 0), caE (u.1 0) (ad 1) (ad 2) (ad 11) (ad 15) (ad 19)), ((ad 1), ctE (u.1 1) (ad 2) (ad 11)), ((ad 2), waE ty (ad 3) (ad 4) (ad 5) (ad 6)), ((ad 3), whE (u.1 2) (ad 7)), ((ad 4), whE (u.1 3) (ad 8)), ((ad 5), whE (u.1 4) (ad 9)), ((ad 6), whE (u.1 5) (ad 10)), ((ad 11), loE (u.2 0) (u.2 1) (ad 12) (ad 13) (ad 14)), ((ad 12), arE ty 40 (u.1 10)), ((ad 13), arE ty 40 (u.1 11)), ((ad 14), arE ty 40 (u.1 12)), ((ad 15), roE (u.2 2) (ad 16) (ad 17) (ad 18)), ((ad 16), arE ty 12 (u.1 13)), ((ad 17), arE ty 12 (u.1 14)), ((ad 18), arE ty 12 (u.1 15)), ((ad 19), scE (u.2 3) (ad 20) (ad 21)), ((ad 20), arE ty 10 (u.1 16)), ((ad 21), arE ty 10 (u.1 17))] s.heap [] := X
  refine lv_lload_n hx hb dX0_mixInto_0 rfl (lv_at hl 1 rfl) ?_
  refine lv_lstore_n (lv' := [(3, .long hh), (0, .ref (ad 0)), (1, .long hh)]) hx hb dX0_mixInto_1 rfl hl (by decide) rfl (fun ls hl => ?_)
  refine lv_iconst (v := 0) hx hb dX0_mixInto_2 (by decide) ?_
  refine lv_istore (lv' := [(5, .int 0), (3, .long hh), (0, .ref (ad 0)), (1, .long hh)]) hx hb dX0_mixInto_3 hl (by decide) rfl (fun ls hl => ?_)
  have K1 : ∀ (y1_0 : Int32) (y1_1 : Int64) (ls : Array Slot) (H : Heap) (locs : List Loc), y1_0 = 10 → y1_1 = (mixCar u hh 10) → lv_has ls 6 [(5, .int y1_0), (3, .long y1_1), (0, .ref (ad 0)), (1, .long hh)] → Wd D A s.heap [((ad 0), caE (u.1 0) (ad 1) (ad 2) (ad 11) (ad 15) (ad 19)), ((ad 1), ctE (u.1 1) (ad 2) (ad 11)), ((ad 2), waE ty (ad 3) (ad 4) (ad 5) (ad 6)), ((ad 3), whE (u.1 2) (ad 7)), ((ad 4), whE (u.1 3) (ad 8)), ((ad 5), whE (u.1 4) (ad 9)), ((ad 6), whE (u.1 5) (ad 10)), ((ad 11), loE (u.2 0) (u.2 1) (ad 12) (ad 13) (ad 14)), ((ad 12), arE ty 40 (u.1 10)), ((ad 13), arE ty 40 (u.1 11)), ((ad 14), arE ty 40 (u.1 12)), ((ad 15), roE (u.2 2) (ad 16) (ad 17) (ad 18)), ((ad 16), arE ty 12 (u.1 13)), ((ad 17), arE ty 12 (u.1 14)), ((ad 18), arE ty 12 (u.1 15)), ((ad 19), scE (u.2 3) (ad 20) (ad 21)), ((ad 20), arE ty 10 (u.1 16)), ((ad 21), arE ty 10 (u.1 17))] H locs → W p l e (rmD 4) s m args below meth c H locs 0 0 Q (F0 m 29 ls []) := by
    intro y1_0 y1_1 ls H locs ey1_0 ey1_1 hl X
    subst ey1_0; subst ey1_1
    refine lv_iconst (v := 0) hx hb dX0_mixInto_29 (by decide) ?_
    refine lv_istore (lv' := [(5, .int 0), (3, .long (mixCar u hh 10)), (0, .ref (ad 0)), (1, .long hh)]) hx hb dX0_mixInto_30 hl (by decide) rfl (fun ls hl => ?_)
    refine lv_iload hx hb dX0_mixInto_32 (lv_at hl 0 rfl) ?_
    refine lv_iconst (v := 4) hx hb dX0_mixInto_34 (by decide) ?_
    refine lv_icmp_ge (tgt := 52) hx hb dX0_mixInto_35 (by decide) (fun c0 => absurd c0 (by decide)) (fun _ => ?_)
    refine lv_aload_n hx hb dX0_mixInto_38 rfl (lv_at hl 2 rfl) ?_
    refine lv_lload_n hx hb dX0_mixInto_39 rfl (lv_at hl 1 rfl) ?_
    refine lv_iload hx hb dX0_mixInto_40 (lv_at hl 0 rfl) ?_
    refine s_cV0l C hK hA X (c_X0_mixWheel_0 l D ty ad u (mixCar u hh 10) hO) [0, 2, 3, 11, 12, 13, 14] (pk_c rfl (pk_c rfl (pk_c rfl (pk_c rfl (pk_c rfl (pk_c rfl (pk_c rfl pk_n))))))) rfl ml_X0_mixWheel wm_X0_188 (q0 := 0) rfl rfl rfl ⟨Nat.le_of_ble_eq_true rfl, Nat.le_of_ble_eq_true rfl⟩ ⟨Nat.zero_le _, Nat.zero_le _⟩ hl.1 rfl (Nat.le_of_ble_eq_true rfl) dX0_mixInto_42 (fun H locs X => ?_)
    refine lv_lstore_n (lv' := [(3, .long (f_X0_mixWheel_0 u (mixCar u hh 10))), (5, .int 0), (0, .ref (ad 0)), (1, .long hh)]) hx hb dX0_mixInto_45 rfl hl (by decide) rfl (fun ls hl => ?_)
    refine lv_iinc (v := 1) (lv' := [(5, .int 1), (3, .long (f_X0_mixWheel_0 u (mixCar u hh 10))), (0, .ref (ad 0)), (1, .long hh)]) hx hb dX0_mixInto_46 hl (k := 1) rfl (by decide) (by decide) rfl (fun ls hl => ?_)
    refine lv_goto (tgt := 32) hx hb dX0_mixInto_49 (by decide) ?_
    refine lv_iload hx hb dX0_mixInto_32 (lv_at hl 0 rfl) ?_
    refine lv_iconst (v := 4) hx hb dX0_mixInto_34 (by decide) ?_
    refine lv_icmp_ge (tgt := 52) hx hb dX0_mixInto_35 (by decide) (fun c0 => absurd c0 (by decide)) (fun _ => ?_)
    refine lv_aload_n hx hb dX0_mixInto_38 rfl (lv_at hl 2 rfl) ?_
    refine lv_lload_n hx hb dX0_mixInto_39 rfl (lv_at hl 1 rfl) ?_
    refine lv_iload hx hb dX0_mixInto_40 (lv_at hl 0 rfl) ?_
    refine s_cV0l C hK hA X (c_X0_mixWheel_1 l D ty ad u (f_X0_mixWheel_0 u (mixCar u hh 10)) hO) [0, 2, 4, 11, 12, 13, 14] (pk_c rfl (pk_c rfl (pk_c rfl (pk_c rfl (pk_c rfl (pk_c rfl (pk_c rfl pk_n))))))) rfl ml_X0_mixWheel wm_X0_188 (q0 := 0) rfl rfl rfl ⟨Nat.le_of_ble_eq_true rfl, Nat.le_of_ble_eq_true rfl⟩ ⟨Nat.zero_le _, Nat.zero_le _⟩ hl.1 rfl (Nat.le_of_ble_eq_true rfl) dX0_mixInto_42 (fun H locs X => ?_)
    refine lv_lstore_n (lv' := [(3, .long (f_X0_mixWheel_1 u (f_X0_mixWheel_0 u (mixCar u hh 10)))), (5, .int 1), (0, .ref (ad 0)), (1, .long hh)]) hx hb dX0_mixInto_45 rfl hl (by decide) rfl (fun ls hl => ?_)
    refine lv_iinc (v := 2) (lv' := [(5, .int 2), (3, .long (f_X0_mixWheel_1 u (f_X0_mixWheel_0 u (mixCar u hh 10)))), (0, .ref (ad 0)), (1, .long hh)]) hx hb dX0_mixInto_46 hl (k := 1) rfl (by decide) (by decide) rfl (fun ls hl => ?_)
    refine lv_goto (tgt := 32) hx hb dX0_mixInto_49 (by decide) ?_
    refine lv_iload hx hb dX0_mixInto_32 (lv_at hl 0 rfl) ?_
    refine lv_iconst (v := 4) hx hb dX0_mixInto_34 (by decide) ?_
    refine lv_icmp_ge (tgt := 52) hx hb dX0_mixInto_35 (by decide) (fun c0 => absurd c0 (by decide)) (fun _ => ?_)
    refine lv_aload_n hx hb dX0_mixInto_38 rfl (lv_at hl 2 rfl) ?_
    refine lv_lload_n hx hb dX0_mixInto_39 rfl (lv_at hl 1 rfl) ?_
    refine lv_iload hx hb dX0_mixInto_40 (lv_at hl 0 rfl) ?_
    refine s_cV0l C hK hA X (c_X0_mixWheel_2 l D ty ad u (f_X0_mixWheel_1 u (f_X0_mixWheel_0 u (mixCar u hh 10))) hO) [0, 2, 5, 11, 12, 13, 14] (pk_c rfl (pk_c rfl (pk_c rfl (pk_c rfl (pk_c rfl (pk_c rfl (pk_c rfl pk_n))))))) rfl ml_X0_mixWheel wm_X0_188 (q0 := 0) rfl rfl rfl ⟨Nat.le_of_ble_eq_true rfl, Nat.le_of_ble_eq_true rfl⟩ ⟨Nat.zero_le _, Nat.zero_le _⟩ hl.1 rfl (Nat.le_of_ble_eq_true rfl) dX0_mixInto_42 (fun H locs X => ?_)
    refine lv_lstore_n (lv' := [(3, .long (f_X0_mixWheel_2 u (f_X0_mixWheel_1 u (f_X0_mixWheel_0 u (mixCar u hh 10))))), (5, .int 2), (0, .ref (ad 0)), (1, .long hh)]) hx hb dX0_mixInto_45 rfl hl (by decide) rfl (fun ls hl => ?_)
    refine lv_iinc (v := 3) (lv' := [(5, .int 3), (3, .long (f_X0_mixWheel_2 u (f_X0_mixWheel_1 u (f_X0_mixWheel_0 u (mixCar u hh 10))))), (0, .ref (ad 0)), (1, .long hh)]) hx hb dX0_mixInto_46 hl (k := 1) rfl (by decide) (by decide) rfl (fun ls hl => ?_)
    refine lv_goto (tgt := 32) hx hb dX0_mixInto_49 (by decide) ?_
    refine lv_iload hx hb dX0_mixInto_32 (lv_at hl 0 rfl) ?_
    refine lv_iconst (v := 4) hx hb dX0_mixInto_34 (by decide) ?_
    refine lv_icmp_ge (tgt := 52) hx hb dX0_mixInto_35 (by decide) (fun c0 => absurd c0 (by decide)) (fun _ => ?_)
    refine lv_aload_n hx hb dX0_mixInto_38 rfl (lv_at hl 2 rfl) ?_
    refine lv_lload_n hx hb dX0_mixInto_39 rfl (lv_at hl 1 rfl) ?_
    refine lv_iload hx hb dX0_mixInto_40 (lv_at hl 0 rfl) ?_
    refine s_cV0l C hK hA X (c_X0_mixWheel_3 l D ty ad u (f_X0_mixWheel_2 u (f_X0_mixWheel_1 u (f_X0_mixWheel_0 u (mixCar u hh 10)))) hO) [0, 2, 6, 11, 12, 13, 14] (pk_c rfl (pk_c rfl (pk_c rfl (pk_c rfl (pk_c rfl (pk_c rfl (pk_c rfl pk_n))))))) rfl ml_X0_mixWheel wm_X0_188 (q0 := 0) rfl rfl rfl ⟨Nat.le_of_ble_eq_true rfl, Nat.le_of_ble_eq_true rfl⟩ ⟨Nat.zero_le _, Nat.zero_le _⟩ hl.1 rfl (Nat.le_of_ble_eq_true rfl) dX0_mixInto_42 (fun H locs X => ?_)
    refine lv_lstore_n (lv' := [(3, .long (f_X0_mixWheel_3 u (f_X0_mixWheel_2 u (f_X0_mixWheel_1 u (f_X0_mixWheel_0 u (mixCar u hh 10)))))), (5, .int 3), (0, .ref (ad 0)), (1, .long hh)]) hx hb dX0_mixInto_45 rfl hl (by decide) rfl (fun ls hl => ?_)
    refine lv_iinc (v := 4) (lv' := [(5, .int 4), (3, .long (f_X0_mixWheel_3 u (f_X0_mixWheel_2 u (f_X0_mixWheel_1 u (f_X0_mixWheel_0 u (mixCar u hh 10)))))), (0, .ref (ad 0)), (1, .long hh)]) hx hb dX0_mixInto_46 hl (k := 1) rfl (by decide) (by decide) rfl (fun ls hl => ?_)
    refine lv_goto (tgt := 32) hx hb dX0_mixInto_49 (by decide) ?_
    refine lv_iload hx hb dX0_mixInto_32 (lv_at hl 0 rfl) ?_
    refine lv_iconst (v := 4) hx hb dX0_mixInto_34 (by decide) ?_
    refine lv_icmp_ge (tgt := 52) hx hb dX0_mixInto_35 (by decide) (fun _ => ?_) (fun c0 => absurd (by decide) c0)
    refine lv_aload_n hx hb dX0_mixInto_52 rfl (lv_at hl 2 rfl) ?_
    refine get_ca_2 C hK X 0 rfl fl_X0_27 dX0_mixInto_53 ?_
    refine lv_aload_n hx hb dX0_mixInto_56 rfl (lv_at hl 2 rfl) ?_
    refine get_ca_4 C hK X 0 rfl fl_X0_38 dX0_mixInto_57 ?_
    refine lv_aload_n hx hb dX0_mixInto_60 rfl (lv_at hl 2 rfl) ?_
    refine get_ca_3 C hK X 0 rfl fl_X0_31 dX0_mixInto_61 ?_
    refine lv_lload_n hx hb dX0_mixInto_64 rfl (lv_at hl 1 rfl) ?_
    refine s_cV0l C hK hA X (c_X3_mixInto l D ty (ad 15) (ad 16) (ad 17) (ad 18) (u.2 2) (u.1 13) (u.1 14) (u.1 15) (f_X0_mixWheel_3 u (f_X0_mixWheel_2 u (f_X0_mixWheel_1 u (f_X0_mixWheel_0 u (mixCar u hh 10))))) hO.2.2.2.2.2.1) [11, 12, 13, 14] (pk_c rfl (pk_c rfl (pk_c rfl (pk_c rfl pk_n)))) rfl ml_X3_mixInto wm_X0_191 (q0 := 0) rfl rfl rfl ⟨Nat.le_of_ble_eq_true rfl, Nat.le_of_ble_eq_true rfl⟩ ⟨Nat.zero_le _, Nat.zero_le _⟩ hl.1 rfl (Nat.le_of_ble_eq_true rfl) dX0_mixInto_65 (fun H locs X => ?_)
    refine s_cV0l C hK hA X (c_X4_mixInto l D ty (ad 19) (ad 20) (ad 21) (u.2 3) (u.1 16) (u.1 17) (f_X3_mixInto (u.2 2) (u.1 13) (u.1 14) (u.1 15) (f_X0_mixWheel_3 u (f_X0_mixWheel_2 u (f_X0_mixWheel_1 u (f_X0_mixWheel_0 u (mixCar u hh 10)))))) hO.2.2.2.2.2.2) [15, 16, 17] (pk_c rfl (pk_c rfl (pk_c rfl pk_n))) rfl ml_X4_mixInto wm_X0_195 (q0 := 0) rfl rfl rfl ⟨Nat.le_of_ble_eq_true rfl, Nat.le_of_ble_eq_true rfl⟩ ⟨Nat.zero_le _, Nat.zero_le _⟩ hl.1 rfl (Nat.le_of_ble_eq_true rfl) dX0_mixInto_68 (fun H locs X => ?_)
    refine s_cV0l C hK hA X (c_X2_mixInto l D ty (ad 11) (ad 12) (ad 13) (ad 14) (u.2 0) (u.2 1) (u.1 10) (u.1 11) (u.1 12) (f_X4_mixInto (u.2 3) (u.1 16) (u.1 17) (f_X3_mixInto (u.2 2) (u.1 13) (u.1 14) (u.1 15) (f_X0_mixWheel_3 u (f_X0_mixWheel_2 u (f_X0_mixWheel_1 u (f_X0_mixWheel_0 u (mixCar u hh 10))))))) hO.2.2.2.2.1) [7, 8, 9, 10] (pk_c rfl (pk_c rfl (pk_c rfl (pk_c rfl pk_n)))) rfl ml_X2_mixInto wm_X0_196 (q0 := 0) rfl rfl rfl ⟨Nat.le_of_ble_eq_true rfl, Nat.le_of_ble_eq_true rfl⟩ ⟨Nat.zero_le _, Nat.zero_le _⟩ hl.1 rfl (Nat.le_of_ble_eq_true rfl) dX0_mixInto_71 (fun H locs X => ?_)
    exact hret _ _ _ _ _ _ dX0_mixInto_74 X rfl (by first | (rw [f_X0_mixInto]; done) | (rw [f_X0_mixInto]; rfl) | (simp only [f_X0_mixInto]; done))
  have L1 : ∀ (kf i : Nat) (y1_0 : Int32) (y1_1 : Int64) (ls : Array Slot) (H : Heap) (locs : List Loc), 10 - i < kf → (i ≤ 10) → y1_0 = (nI i) → y1_1 = (mixCar u hh i) → lv_has ls 6 [(5, .int y1_0), (3, .long y1_1), (0, .ref (ad 0)), (1, .long hh)] → Wd D A s.heap [((ad 0), caE (u.1 0) (ad 1) (ad 2) (ad 11) (ad 15) (ad 19)), ((ad 1), ctE (u.1 1) (ad 2) (ad 11)), ((ad 2), waE ty (ad 3) (ad 4) (ad 5) (ad 6)), ((ad 3), whE (u.1 2) (ad 7)), ((ad 4), whE (u.1 3) (ad 8)), ((ad 5), whE (u.1 4) (ad 9)), ((ad 6), whE (u.1 5) (ad 10)), ((ad 11), loE (u.2 0) (u.2 1) (ad 12) (ad 13) (ad 14)), ((ad 12), arE ty 40 (u.1 10)), ((ad 13), arE ty 40 (u.1 11)), ((ad 14), arE ty 40 (u.1 12)), ((ad 15), roE (u.2 2) (ad 16) (ad 17) (ad 18)), ((ad 16), arE ty 12 (u.1 13)), ((ad 17), arE ty 12 (u.1 14)), ((ad 18), arE ty 12 (u.1 15)), ((ad 19), scE (u.2 3) (ad 20) (ad 21)), ((ad 20), arE ty 10 (u.1 16)), ((ad 21), arE ty 10 (u.1 17))] H locs → W p l e (rmD 4) s m args below meth c H locs 0 0 Q (F0 m 5 ls []) := by
    intro kf
    induction kf with
    | zero => intro i y1_0 y1_1 ls H locs hk; exact absurd hk (Nat.not_lt_zero _)
    | succ kf ih1 =>
      intro i y1_0 y1_1 ls H locs hk hI ey1_0 ey1_1 hl X
      subst ey1_0; subst ey1_1
      refine lv_iload hx hb dX0_mixInto_5 (lv_at hl 0 rfl) ?_
      refine lv_bipush (v := 10) hx hb dX0_mixInto_7 (by decide) ?_
      refine lv_icmp_ge (tgt := 29) hx hb dX0_mixInto_9 (by decide) (fun c0_0 => ?_) (fun c0_0 => ?_)
      · have hE : i = 10 := eq_of_nIle (a := 10) (by decide) (by omega) hI c0_0
        exact K1 (nI i) (mixCar u hh i) _ _ _ (by rw [hE]; rfl) (by rw [hE]) (lv_sub hl [0, 1, 2, 3] rfl) X
      · refine lv_lload_n hx hb dX0_mixInto_12 rfl (lv_at hl 1 rfl) ?_
        refine lv_aload_n hx hb dX0_mixInto_13 rfl (lv_at hl 2 rfl) ?_
        refine lv_iload hx hb dX0_mixInto_14 (lv_at hl 0 rfl) ?_
        refine s_cV0i C hK hA X (c_X0_carValue l D ty ad u (nI i)) [0, 1, 2, 3, 4, 5, 6] (pk_c rfl (pk_c rfl (pk_c rfl (pk_c rfl (pk_c rfl (pk_c rfl (pk_c rfl pk_n))))))) rfl ml_X0_carValue wm_X0_181 (q0 := 0) rfl rfl rfl ⟨Nat.le_of_ble_eq_true rfl, Nat.le_of_ble_eq_true rfl⟩ ⟨Nat.zero_le _, Nat.zero_le _⟩ hl.1 rfl (Nat.le_of_ble_eq_true rfl) dX0_mixInto_16 (fun H locs X => ?_)
        refine s_cN0l C hK hA X (c_X6_mix l D ty (mixCar u hh i) (f_X0_carValue u (nI i))) [] pk_n rfl sl_X6_mix nw_X0_184 ⟨Nat.le_of_ble_eq_true rfl, Nat.le_of_ble_eq_true rfl⟩ ⟨Nat.zero_le _, Nat.zero_le _⟩ hl.1 rfl (Nat.le_of_ble_eq_true rfl) dX0_mixInto_19 (fun H locs X => ?_)
        refine lv_lstore_n (lv' := [(3, .long (f_X6_mix (mixCar u hh i) (f_X0_carValue u (nI i)))), (5, .int (nI i)), (0, .ref (ad 0)), (1, .long hh)]) hx hb dX0_mixInto_22 rfl hl (by decide) rfl (fun ls hl => ?_)
        refine lv_iinc (v := ((nI i) + 1)) (lv' := [(5, .int ((nI i) + 1)), (3, .long (f_X6_mix (mixCar u hh i) (f_X0_carValue u (nI i)))), (0, .ref (ad 0)), (1, .long hh)]) hx hb dX0_mixInto_23 hl (k := 1) rfl rfl (by decide) rfl (fun ls hl => ?_)
        refine lv_goto (tgt := 5) hx hb dX0_mixInto_26 (by decide) ?_
        have h1 : i < 10 := lt_of_nnIle (a := 10) (b := i) (by decide) (by omega) c0_0
        exact ih1 (i + 1) ((nI i) + 1) (f_X6_mix (mixCar u hh i) (f_X0_carValue u (nI i))) _ _ _ (by omega) (by have := lt_of_nnIle (a := 10) (b := i) (by decide) (by omega) c0_0; omega) (nI_1 i) rfl (lv_sub hl [0, 1, 2, 3] rfl) X
  exact L1 (10 + 1) 0 0 hh _ _ _ (by omega) (Nat.zero_le _) rfl rfl (lv_sub hl [0, 1, 2, 3] rfl) X
