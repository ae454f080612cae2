theorem lin (c b i : Nat) : nI b + nI c * nI i = nI (b + c * i) := by rw [pk_mul, nI_add]
theorem cpy_lo {f g : F1} {sp dp i q : Nat} (h : q < dp) : va_cpy f g sp dp i q = g q := by unfold va_cpy; rw [if_neg (by omega)]
theorem cpy_hi {f g : F1} {sp dp i q : Nat} (h : dp + i ≤ q) : va_cpy f g sp dp i q = g q := by unfold va_cpy; rw [if_neg (by omega)]
/-- the present segment, as the reference finds it -/
def prI (n : F1) : Nat → Nat
  | 0 => 0
  | i + 1 => if n 1 < n (75 + 3 * i) then prI n i else i
theorem prI_lt (n : F1) : ∀ k, 1 ≤ k → prI n k < k
  | 0, h => by omega
  | 1, _ => by show (if n 1 < n (75 + 3 * 0) then prI n 0 else 0) < 1; split <;> first | decide | (show 0 < 1; decide)
  | k + 2, _ => by
    show (if n 1 < n (75 + 3 * (k + 1)) then prI n (k + 1) else k + 1) < k + 2
    have := prI_lt n (k + 1) (by omega)
    split <;> omega
def v_X7_present_2 (n : F1) (i : Nat) : Int32 := (if (n 1) < (n (75 + 3 * i)) then (nI (prI n i)) else (nI i))
theorem present_step (n : F1) (i : Nat) : v_X7_present_2 n i = nI (prI n (i + 1)) := by
  unfold v_X7_present_2
  show _ = nI (if n 1 < n (75 + 3 * i) then prI n i else i)
  split <;> rfl
set_option maxHeartbeats 4000000 in
set_option maxRecDepth 100000 in
theorem c_X7_present (l : Launch) (D : va_G) (ty : Nat → ClassId) (o : Nat) (a : Nat) (b : Nat) (c_ : Nat) (g : F1) (hs : Int64) (n : F1) (hM : MOK n) : MC l D ty yX7_present cX7_present 3 (some .int) 0 [.ref o] [(o, moE g hs a b c_), (a, arE ty 253 n)] (some (.int (nI (prI n (sN n))))) [(o, moE g hs a b c_), (a, arE ty 253 n)] := by
  refine mc_i (by decide +kernel) (Nat.le_of_ble_eq_true rfl) ?_
  intro p e s m args below meth c A Q ls C hK hA X hret hl
  have hx := C.1
  have hb := C.2.1
  have hl : lv_has ls 3 [(0, .ref o)] := hl
  have X : Wd D A s.heap [(o, moE g hs a b c_), (a, arE ty 253 n)] s.heap [] := X
  obtain ⟨hn, hs1, hs2⟩ := sN_eq hM
  refine lv_iconst (v := 0) hx hb dX7_present_0 (by decide) ?_
  refine lv_istore_n (lv' := [(1, .int 0), (0, .ref o)]) hx hb dX7_present_1 rfl hl (by decide) rfl (fun ls hl => ?_)
  refine lv_iconst (v := 0) hx hb dX7_present_2 (by decide) ?_
  refine lv_istore_n (lv' := [(2, .int 0), (1, .int 0), (0, .ref o)]) hx hb dX7_present_3 rfl hl (by decide) rfl (fun ls hl => ?_)
  have K1 : ∀ (y1_0 : Int32) (y1_1 : Int32) (ls : Array Slot) (H : Heap) (locs : List Loc), y1_0 = (nI (sN n)) → y1_1 = (nI (prI n (sN n))) → lv_has ls 3 [(2, .int y1_0), (1, .int y1_1), (0, .ref o)] → Wd D A s.heap [(o, moE g hs a b c_), (a, arE ty 253 n)] H locs → W p l e (rmD 0) s m args below meth c H locs 0 0 Q (F0 m 47 ls []) := by
    intro y1_0 y1_1 ls H locs ey1_0 ey1_1 hl X
    subst ey1_0; subst ey1_1
    refine lv_iload_n hx hb dX7_present_47 rfl (lv_at hl 1 rfl) ?_
    exact hret _ _ _ _ _ _ dX7_present_48 X rfl rfl
  have L1 : ∀ (kf i : Nat) (y1_0 : Int32) (y1_1 : Int32) (ls : Array Slot) (H : Heap) (locs : List Loc), (sN n) - i < kf → (i ≤ (sN n)) → y1_0 = (nI i) → y1_1 = (nI (prI n i)) → lv_has ls 3 [(2, .int y1_0), (1, .int y1_1), (0, .ref o)] → Wd D A s.heap [(o, moE g hs a b c_), (a, arE ty 253 n)] H locs → W p l e (rmD 0) s m args below meth c H locs 0 0 Q (F0 m 4 ls []) := by
    intro kf
    induction kf with
    | zero => intro i y1_0 y1_1 ls H locs hk; exact absurd hk (Nat.not_lt_zero _)
    | succ kf ih1 =>
      intro i y1_0 y1_1 ls H locs hk hI ey1_0 ey1_1 hl X
      subst ey1_0; subst ey1_1
      refine lv_iload_n hx hb dX7_present_4 rfl (lv_at hl 0 rfl) ?_
      refine lv_aload_n hx hb dX7_present_5 rfl (lv_at hl 2 rfl) ?_
      refine get_mo_0 C hK X 0 rfl fl_X7_7 dX7_present_6 ?_
      refine lv_bipush (v := 74) hx hb dX7_present_9 (by decide) ?_
      refine s_ialN C hK X 1 74 rfl rfl (by decide) (by decide) dX7_present_11 ?_
      refine s_eqi (y := nI (sN n)) (hn) ?_
      refine lv_icmp_ge (tgt := 47) hx hb dX7_present_12 (by decide) (fun c0_0 => ?_) (fun c0_0 => ?_)
      · have hE : i = sN n := eq_of_nIle (by omega) (by omega) hI c0_0
        exact K1 (nI i) (nI (prI n i)) _ _ _ (by rw [hE]) (by rw [hE]) (lv_sub hl [0, 1, 2] rfl) X
      · have h1 : i < sN n := lt_of_nnIle (by omega) (by omega) c0_0
        refine lv_aload_n hx hb dX7_present_15 rfl (lv_at hl 2 rfl) ?_
        refine get_mo_0 C hK X 0 rfl fl_X7_7 dX7_present_16 ?_
        refine lv_bipush (v := 75) hx hb dX7_present_19 (by decide) ?_
        refine lv_iconst (v := 3) hx hb dX7_present_21 (by decide) ?_
        refine lv_iload_n hx hb dX7_present_22 rfl (lv_at hl 0 rfl) ?_
        refine lv_imul hx hb dX7_present_23 ?_
        refine lv_iadd hx hb dX7_present_24 ?_
        refine s_eqi (y := nI (75 + 3 * i)) (lin 3 75 i) ?_
        refine s_ialN C hK X 1 (75 + 3 * i) rfl rfl (by omega) (by decide) dX7_present_25 ?_
        refine lv_aload_n hx hb dX7_present_26 rfl (lv_at hl 2 rfl) ?_
        refine get_mo_0 C hK X 0 rfl fl_X7_7 dX7_present_27 ?_
        refine lv_iconst (v := 1) hx hb dX7_present_30 (by decide) ?_
        refine s_ialN C hK X 1 1 rfl rfl (by decide) (by decide) dX7_present_31 ?_
        have J40_3 : ∀ (x2 : Int32) (ls : Array Slot) (H : Heap) (locs : List Loc), x2 = (v_X7_present_2 n i) → lv_has ls 3 [(2, .int (nI i)), (1, .int (nI (prI n i))), (0, .ref o)] → Wd D A s.heap [(o, moE g hs a b c_), (a, arE ty 253 n)] H locs → W p l e (rmD 0) s m args below meth c H locs 0 0 Q (F0 m 40 ls [.int x2]) := by
          intro x2 ls H locs ex2 hl X
          subst ex2
          refine lv_istore_n (lv' := [(1, .int (v_X7_present_2 n i)), (2, .int (nI i)), (0, .ref o)]) hx hb dX7_present_40 rfl hl (by decide) rfl (fun ls hl => ?_)
          refine lv_iinc (v := ((nI i) + 1)) (lv' := [(2, .int ((nI i) + 1)), (1, .int (v_X7_present_2 n i)), (0, .ref o)]) hx hb dX7_present_41 hl (k := 1) rfl rfl (by decide) rfl (fun ls hl => ?_)
          refine lv_goto (tgt := 4) hx hb dX7_present_44 (by decide) ?_
          have h1 : i < sN n := lt_of_nnIle (by omega) (by omega) c0_0
          exact ih1 (i + 1) ((nI i) + 1) (v_X7_present_2 n i) _ _ _ (by omega) (by omega) (nI_1 i) (present_step n i) (lv_sub hl [0, 1, 2] rfl) X
        refine lv_icmp_gt (tgt := 39) hx hb dX7_present_32 (by decide) (fun c1_1 => ?_) (fun c1_1 => ?_)
        · refine lv_iload_n hx hb dX7_present_39 rfl (lv_at hl 1 rfl) ?_
          exact J40_3 (nI (prI n i)) _ _ _ (by first | (rw [v_X7_present_2, if_pos c1_1]; done) | (rw [v_X7_present_2, if_pos c1_1]; rfl) | (simp only [v_X7_present_2, if_pos c1_1]; done)) (lv_sub hl [0, 1, 2] rfl) X
        · refine lv_iload_n hx hb dX7_present_35 rfl (lv_at hl 0 rfl) ?_
          refine lv_goto (tgt := 40) hx hb dX7_present_36 (by decide) ?_
          exact J40_3 (nI i) _ _ _ (by first | (rw [v_X7_present_2, if_neg c1_1]; done) | (rw [v_X7_present_2, if_neg c1_1]; rfl) | (simp only [v_X7_present_2, if_neg c1_1]; done)) (lv_sub hl [0, 1, 2] rfl) X
  exact L1 ((sN n) + 1) 0 0 0 _ _ _ (by omega) (Nat.zero_le _) rfl rfl (lv_sub hl [0, 1, 2] rfl) X
def f_X7_frictionAt (n : F1) (j : Nat) : Int32 := (f_X7_frictionOf (n (75 + 3 * prI n (sN n) + 1 + j % 2)) (f_X7_slipOf n j))
set_option maxHeartbeats 4000000 in
set_option maxRecDepth 100000 in
theorem c_X7_frictionAt (l : Launch) (D : va_G) (ty : Nat → ClassId) (o : Nat) (a : Nat) (b : Nat) (c_ : Nat) (g : F1) (hs : Int64) (n : F1) (j : Nat) (hM : MOK n) (hj : j < 4) : MC l D ty yX7_frictionAt cX7_frictionAt 2 (some .int) 3 [.ref o, .int (nI j)] [(o, moE g hs a b c_), (a, arE ty 253 n)] (some (.int (f_X7_frictionAt n j))) [(o, moE g hs a b c_), (a, arE ty 253 n)] := by
  refine mc_i (by decide +kernel) (Nat.le_of_ble_eq_true rfl) ?_
  intro p e s m args below meth c A Q ls C hK hA X hret hl
  have hx := C.1
  have hb := C.2.1
  have hl : lv_has ls 2 [(0, .ref o), (1, .int (nI j))] := hl
  have X : Wd D A s.heap [(o, moE g hs a b c_), (a, arE ty 253 n)] s.heap [] := X
  obtain ⟨hn, hs1, hs2⟩ := sN_eq hM
  have hp := prI_lt n (sN n) hs1
  refine lv_aload_n hx hb dX7_frictionAt_0 rfl (lv_at hl 0 rfl) ?_
  refine get_mo_0 C hK X 0 rfl fl_X7_7 dX7_frictionAt_1 ?_
  refine lv_bipush (v := 75) hx hb dX7_frictionAt_4 (by decide) ?_
  refine lv_iconst (v := 3) hx hb dX7_frictionAt_6 (by decide) ?_
  refine lv_aload_n hx hb dX7_frictionAt_7 rfl (lv_at hl 0 rfl) ?_
  refine s_cV0i C hK hA X (c_X7_present l D ty o a b c_ g hs n hM) [0, 1] (pk_c rfl (pk_c rfl pk_n)) rfl ml_X7_present wm_X7_48 (q0 := 0) rfl rfl rfl ⟨Nat.le_of_ble_eq_true rfl, Nat.le_of_ble_eq_true rfl⟩ ⟨Nat.zero_le _, Nat.zero_le _⟩ hl.1 rfl (Nat.le_of_ble_eq_true rfl) dX7_frictionAt_8 (fun H locs X => ?_)
  refine lv_imul hx hb dX7_frictionAt_11 ?_
  refine lv_iadd hx hb dX7_frictionAt_12 ?_
  refine lv_iconst (v := 1) hx hb dX7_frictionAt_13 (by decide) ?_
  refine lv_iadd hx hb dX7_frictionAt_14 ?_
  refine lv_iload_n hx hb dX7_frictionAt_15 rfl (lv_at hl 1 rfl) ?_
  refine lv_iconst (v := 2) hx hb dX7_frictionAt_16 (by decide) ?_
  refine lv_irem hx hb dX7_frictionAt_17 (by decide) ?_
  refine s_eqi (y := nI (j % 2)) (pk_rem (d := 2) (by omega) (by decide) (by decide)) ?_
  refine lv_iadd hx hb dX7_frictionAt_18 ?_
  refine s_eqi (y := nI (75 + 3 * prI n (sN n) + 1 + j % 2)) (by rw [show (75 : Int32) + 3 * nI (prI n (sN n)) = nI (75 + 3 * prI n (sN n)) from lin 3 75 _, nI_1, nI_add]) ?_
  refine s_ialN C hK X 1 (75 + 3 * prI n (sN n) + 1 + j % 2) rfl rfl (by omega) (by decide) dX7_frictionAt_19 ?_
  refine lv_aload_n hx hb dX7_frictionAt_20 rfl (lv_at hl 0 rfl) ?_
  refine lv_iload_n hx hb dX7_frictionAt_21 rfl (lv_at hl 1 rfl) ?_
  refine s_cV0i C hK hA X (c_X7_slipOf l D ty o a b c_ g hs n j (by assumption)) [0, 1] (pk_c rfl (pk_c rfl pk_n)) rfl ml_X7_slipOf wm_X7_52 (q0 := 0) rfl rfl rfl ⟨Nat.le_of_ble_eq_true rfl, Nat.le_of_ble_eq_true rfl⟩ ⟨Nat.zero_le _, Nat.zero_le _⟩ hl.1 rfl (Nat.le_of_ble_eq_true rfl) dX7_frictionAt_22 (fun H locs X => ?_)
  refine s_cS0i C hK hA X (c_X7_frictionOf l D ty (n (75 + 3 * prI n (sN n) + 1 + j % 2)) (f_X7_slipOf n j)) [] pk_n rfl sl_X7_frictionOf wm_X7_56 ⟨Nat.le_of_ble_eq_true rfl, Nat.le_of_ble_eq_true rfl⟩ ⟨Nat.zero_le _, Nat.zero_le _⟩ hl.1 rfl (Nat.le_of_ble_eq_true rfl) dX7_frictionAt_25 (fun H locs X => ?_)
  exact hret _ _ _ _ _ _ dX7_frictionAt_28 X rfl (by first | (rw [f_X7_frictionAt]; done) | (rw [f_X7_frictionAt]; rfl) | (simp only [f_X7_frictionAt]; done))
def v_X7_dropsSegments_2 (n : F1) (i : Nat) : F1 := (upd (va_cpy (upd n 74 (nI (sN n - prI n (sN n)))) (upd n 74 (nI (sN n - prI n (sN n)))) (75 + 3 * prI n (sN n)) 75 i) (75 + i) ((upd n 74 (nI (sN n - prI n (sN n)))) (75 + 3 * prI n (sN n) + i)))
def f_X7_dropsSegments_a (n : F1) : F1 := (va_cpy (upd n 74 (nI (sN n - prI n (sN n)))) (upd n 74 (nI (sN n - prI n (sN n)))) (75 + 3 * prI n (sN n)) 75 (3 * (sN n - prI n (sN n))))
theorem dr_ix (i p : Nat) : 75 + nI i + 3 * nI p = nI (75 + 3 * p + i) := by
  rw [show (75 : Int32) = nI 75 from rfl, show (3 : Int32) = nI 3 from rfl, pk_mul, nI_add, nI_add]; congr 1; omega
theorem drops_ok {n : F1} (hM : MOK n) : MOK (f_X7_dropsSegments_a n) := by
  obtain ⟨hn, hs1, hs2⟩ := sN_eq hM
  have hp := prI_lt n (sN n) hs1
  have e74 : f_X7_dropsSegments_a n 74 = nI (sN n - prI n (sN n)) := by unfold f_X7_dropsSegments_a; rw [cpy_lo (by omega)]; rfl
  have e : ∀ q, q < 74 ∨ 111 ≤ q → f_X7_dropsSegments_a n q = n q := by
    intro q hq
    unfold f_X7_dropsSegments_a
    rcases hq with hq | hq
    · rw [cpy_lo (by omega)]; exact pk_un (by omega)
    · rw [cpy_hi (by omega)]; exact pk_un (by omega)
  refine ⟨?_, ?_, ?_, fun j hj => ?_⟩
  · rw [e74, nI_toInt (by omega)]; omega
  · rw [e 111 (by omega)]; exact hM.2.1
  · rw [e 132 (by omega)]; exact hM.2.2.1
  · rw [e _ (by omega)]; exact hM.2.2.2 j hj
theorem ok_X7_dropsSegments_a (n : F1) (hM : MOK n) : MOK (f_X7_dropsSegments_a n) := drops_ok hM
set_option maxHeartbeats 4000000 in
set_option maxRecDepth 100000 in
theorem c_X7_dropsSegments (l : Launch) (D : va_G) (ty : Nat → ClassId) (o : Nat) (a : Nat) (b : Nat) (c_ : Nat) (g : F1) (hs : Int64) (n : F1) (hM : MOK n) : MC l D ty yX7_dropsSegments cX7_dropsSegments 3 none 1 [.ref o] [(o, moE g hs a b c_), (a, arE ty 253 n)] none [(o, moE g hs a b c_), (a, arE ty 253 (f_X7_dropsSegments_a n))] := by
  refine mc_v (by decide +kernel) (Nat.le_of_ble_eq_true rfl) ?_
  intro p e s m args below meth c A Q ls C hK hA X hret hl
  have hx := C.1
  have hb := C.2.1
  have hl : lv_has ls 3 [(0, .ref o)] := hl
  have X : Wd D A s.heap [(o, moE g hs a b c_), (a, arE ty 253 n)] s.heap [] := X
  obtain ⟨hn, hs1, hs2⟩ := sN_eq hM
  have hp := prI_lt n (sN n) hs1
  refine lv_aload_n hx hb dX7_dropsSegments_0 rfl (lv_at hl 0 rfl) ?_
  refine s_cV0i C hK hA X (c_X7_present l D ty o a b c_ g hs n hM) [0, 1] (pk_c rfl (pk_c rfl pk_n)) rfl ml_X7_present wm_X7_48 (q0 := 0) rfl rfl rfl ⟨Nat.le_of_ble_eq_true rfl, Nat.le_of_ble_eq_true rfl⟩ ⟨Nat.zero_le _, Nat.zero_le _⟩ hl.1 rfl (Nat.le_of_ble_eq_true rfl) dX7_dropsSegments_1 (fun H locs X => ?_)
  refine lv_istore_n (lv' := [(1, .int (nI (prI n (sN n)))), (0, .ref o)]) hx hb dX7_dropsSegments_4 rfl hl (by decide) rfl (fun ls hl => ?_)
  refine lv_aload_n hx hb dX7_dropsSegments_5 rfl (lv_at hl 1 rfl) ?_
  refine get_mo_0 C hK X 0 rfl fl_X7_7 dX7_dropsSegments_6 ?_
  refine lv_bipush (v := 74) hx hb dX7_dropsSegments_9 (by decide) ?_
  refine lv_dup2_11 hx hb dX7_dropsSegments_11 rfl rfl ?_
  refine s_ialN C hK X 1 74 rfl rfl (by decide) (by decide) dX7_dropsSegments_12 ?_
  refine s_eqi (y := nI (sN n)) (hn) ?_
  refine lv_iload_n hx hb dX7_dropsSegments_13 rfl (lv_at hl 0 rfl) ?_
  refine lv_isub hx hb dX7_dropsSegments_14 ?_
  refine s_eqi (y := nI (sN n - prI n (sN n))) (pk_sub (by omega)) ?_
  refine s_iasN C hK X 1 74 rfl rfl (by decide) (by decide) dX7_dropsSegments_15 (fun H locs X => ?_)
  have X : Wd D A s.heap [(o, moE g hs a b c_), (a, arE ty 253 (upd n 74 (nI (sN n - prI n (sN n)))))] H locs := X
  refine lv_iconst (v := 0) hx hb dX7_dropsSegments_16 (by decide) ?_
  refine lv_istore_n (lv' := [(2, .int 0), (1, .int (nI (prI n (sN n)))), (0, .ref o)]) hx hb dX7_dropsSegments_17 rfl hl (by decide) rfl (fun ls hl => ?_)
  have K1 : ∀ (y1_0 : Int32) (y1_1 : F1) (ls : Array Slot) (H : Heap) (locs : List Loc), y1_0 = (nI (3 * (sN n - prI n (sN n)))) → y1_1 = (va_cpy (upd n 74 (nI (sN n - prI n (sN n)))) (upd n 74 (nI (sN n - prI n (sN n)))) (75 + 3 * prI n (sN n)) 75 (3 * (sN n - prI n (sN n)))) → lv_has ls 3 [(2, .int y1_0), (1, .int (nI (prI n (sN n)))), (0, .ref o)] → Wd D A s.heap [(o, moE g hs a b c_), (a, arE ty 253 y1_1)] H locs → W p l e (rmD 1) s m args below meth c H locs 0 0 Q (F0 m 59 ls []) := by
    intro y1_0 y1_1 ls H locs ey1_0 ey1_1 hl X
    subst ey1_0; subst ey1_1
    have e_1_0 : (f_X7_dropsSegments_a n) = (va_cpy (upd n 74 (nI (sN n - prI n (sN n)))) (upd n 74 (nI (sN n - prI n (sN n)))) (75 + 3 * prI n (sN n)) 75 (3 * (sN n - prI n (sN n)))) := by first | (rw [f_X7_dropsSegments_a]; done) | (rw [f_X7_dropsSegments_a]; rfl) | (simp only [f_X7_dropsSegments_a]; done)
    exact hret _ _ _ _ _ dX7_dropsSegments_59 X (by rw [e_1_0])
  have L1 : ∀ (kf i : Nat) (y1_0 : Int32) (y1_1 : F1) (ls : Array Slot) (H : Heap) (locs : List Loc), (3 * (sN n - prI n (sN n))) - i < kf → (i ≤ 3 * (sN n - prI n (sN n))) → y1_0 = (nI i) → y1_1 = (va_cpy (upd n 74 (nI (sN n - prI n (sN n)))) (upd n 74 (nI (sN n - prI n (sN n)))) (75 + 3 * prI n (sN n)) 75 i) → lv_has ls 3 [(2, .int y1_0), (1, .int (nI (prI n (sN n)))), (0, .ref o)] → Wd D A s.heap [(o, moE g hs a b c_), (a, arE ty 253 y1_1)] H locs → W p l e (rmD 1) s m args below meth c H locs 0 0 Q (F0 m 18 ls []) := by
    intro kf
    induction kf with
    | zero => intro i y1_0 y1_1 ls H locs hk; exact absurd hk (Nat.not_lt_zero _)
    | succ kf ih1 =>
      intro i y1_0 y1_1 ls H locs hk hI ey1_0 ey1_1 hl X
      subst ey1_0; subst ey1_1
      refine lv_iload_n hx hb dX7_dropsSegments_18 rfl (lv_at hl 0 rfl) ?_
      refine lv_iconst (v := 3) hx hb dX7_dropsSegments_19 (by decide) ?_
      refine lv_aload_n hx hb dX7_dropsSegments_20 rfl (lv_at hl 2 rfl) ?_
      refine get_mo_0 C hK X 0 rfl fl_X7_7 dX7_dropsSegments_21 ?_
      refine lv_bipush (v := 74) hx hb dX7_dropsSegments_24 (by decide) ?_
      refine s_ialN C hK X 1 74 rfl rfl (by decide) (by decide) dX7_dropsSegments_26 ?_
      refine s_eqi (y := nI (sN n - prI n (sN n))) (cpy_lo (by omega)) ?_
      refine lv_imul hx hb dX7_dropsSegments_27 ?_
      refine s_eqi (y := nI (3 * (sN n - prI n (sN n)))) (pk_mul 3 _) ?_
      refine lv_icmp_ge (tgt := 59) hx hb dX7_dropsSegments_28 (by decide) (fun c0_0 => ?_) (fun c0_0 => ?_)
      · have hE : i = 3 * (sN n - prI n (sN n)) := eq_of_nIle (by omega) (by omega) hI c0_0
        exact K1 (nI i) (va_cpy (upd n 74 (nI (sN n - prI n (sN n)))) (upd n 74 (nI (sN n - prI n (sN n)))) (75 + 3 * prI n (sN n)) 75 i) _ _ _ (by rw [hE]) (by rw [hE]) (lv_sub hl [0, 1, 2] rfl) X
      · have h1 : i < 3 * (sN n - prI n (sN n)) := lt_of_nnIle (by omega) (by omega) c0_0
        refine lv_aload_n hx hb dX7_dropsSegments_31 rfl (lv_at hl 2 rfl) ?_
        refine get_mo_0 C hK X 0 rfl fl_X7_7 dX7_dropsSegments_32 ?_
        refine lv_bipush (v := 75) hx hb dX7_dropsSegments_35 (by decide) ?_
        refine lv_iload_n hx hb dX7_dropsSegments_37 rfl (lv_at hl 0 rfl) ?_
        refine lv_iadd hx hb dX7_dropsSegments_38 ?_
        refine s_eqi (y := nI (75 + i)) (nI_add 75 i) ?_
        refine lv_aload_n hx hb dX7_dropsSegments_39 rfl (lv_at hl 2 rfl) ?_
        refine get_mo_0 C hK X 0 rfl fl_X7_7 dX7_dropsSegments_40 ?_
        refine lv_bipush (v := 75) hx hb dX7_dropsSegments_43 (by decide) ?_
        refine lv_iload_n hx hb dX7_dropsSegments_45 rfl (lv_at hl 0 rfl) ?_
        refine lv_iadd hx hb dX7_dropsSegments_46 ?_
        refine lv_iconst (v := 3) hx hb dX7_dropsSegments_47 (by decide) ?_
        refine lv_iload_n hx hb dX7_dropsSegments_48 rfl (lv_at hl 1 rfl) ?_
        refine lv_imul hx hb dX7_dropsSegments_49 ?_
        refine lv_iadd hx hb dX7_dropsSegments_50 ?_
        refine s_eqi (y := nI (75 + 3 * prI n (sN n) + i)) (dr_ix i _) ?_
        refine s_ialN C hK X 1 (75 + 3 * prI n (sN n) + i) rfl rfl (by omega) (by decide) dX7_dropsSegments_51 ?_
        refine s_eqi (y := (upd n 74 (nI (sN n - prI n (sN n)))) (75 + 3 * prI n (sN n) + i)) (cpy_at (by omega)) ?_
        refine s_iasN C hK X 1 (75 + i) rfl rfl (by omega) (by decide) dX7_dropsSegments_52 (fun H locs X => ?_)
        have X : Wd D A s.heap [(o, moE g hs a b c_), (a, arE ty 253 (v_X7_dropsSegments_2 n i))] H locs := X
        refine lv_iinc (v := ((nI i) + 1)) (lv' := [(2, .int ((nI i) + 1)), (1, .int (nI (prI n (sN n)))), (0, .ref o)]) hx hb dX7_dropsSegments_53 hl (k := 0) rfl rfl (by decide) rfl (fun ls hl => ?_)
        refine lv_goto (tgt := 18) hx hb dX7_dropsSegments_56 (by decide) ?_
        have h1 : i < 3 * (sN n - prI n (sN n)) := lt_of_nnIle (by omega) (by omega) c0_0
        exact ih1 (i + 1) ((nI i) + 1) (v_X7_dropsSegments_2 n i) _ _ _ (by omega) (by omega) (nI_1 i) cpy_step (lv_sub hl [0, 1, 2] rfl) X
  exact L1 ((3 * (sN n - prI n (sN n))) + 1) 0 0 (upd n 74 (nI (sN n - prI n (sN n)))) _ _ _ (by omega) (Nat.zero_le _) rfl cpy_0.symm (lv_sub hl [0, 1, 2] rfl) X
/-- the number of events behind the shift -/
def eM (n : F1) : Nat := if n 132 = 40 then 39 else eN n
theorem lg_ix (i : Nat) : 133 + nI i + 3 = nI (136 + i) := by
  rw [show (133 : Int32) = nI 133 from rfl, show (3 : Int32) = nI 3 from rfl, nI_add, nI_add]; congr 1; omega
theorem logs_40 {n : F1} (c : n 132 = 40) : (va_cpy n n 136 133 117) 132 = 40 := by rw [cpy_lo (by omega)]; exact c
theorem eM_le {n : F1} (hM : MOK n) : eM n ≤ 39 := by
  obtain ⟨hn, he⟩ := eN_eq hM
  unfold eM
  split
  · omega
  · rename_i c
    rcases Nat.lt_or_ge (eN n) 40 with q | q
    · omega
    · exact absurd (by rw [hn, show eN n = 40 by omega]; rfl) c
def v_X7_logs_2 (n : F1) : F1 := (if (n 132) = 40 then (upd (va_cpy n n 136 133 117) 132 39) else n)
def v_X7_logs_4 (n : F1) (kd : Int32) (vl : Int32) : F1 := (upd (upd (upd (v_X7_logs_2 n) (133 + 3 * eM n) ((v_X7_logs_2 n) 2)) (133 + 3 * eM n + 1) kd) (133 + 3 * eM n + 2) vl)
def f_X7_logs_a (n : F1) (kd : Int32) (vl : Int32) : F1 := (upd (v_X7_logs_4 n kd vl) 132 (nI (eM n + 1)))
theorem logs_e {n : F1} (hM : MOK n) : (v_X7_logs_2 n) 132 = nI (eM n) ∧ eM n ≤ 39 := by
  refine ⟨?_, eM_le hM⟩
  obtain ⟨hn, he⟩ := eN_eq hM
  unfold v_X7_logs_2 eM
  split
  · exact pk_us
  · exact hn
theorem logs_rd {n : F1} (hM : MOK n) (x y z : Int32) : (upd (upd (upd (v_X7_logs_2 n) (133 + 3 * eM n) x) (133 + 3 * eM n + 1) y) (133 + 3 * eM n + 2) z) 132 = nI (eM n) := by
  rw [pk_un (by omega), pk_un (by omega), pk_un (by omega)]; exact (logs_e hM).1
theorem logs_lo (n : F1) (kd vl : Int32) (q : Nat) (h : q < 132) : f_X7_logs_a n kd vl q = n q := by
  unfold f_X7_logs_a v_X7_logs_4 v_X7_logs_2
  rw [pk_un (by omega), pk_un (by omega), pk_un (by omega), pk_un (by omega)]
  split
  · rw [pk_un (by omega), cpy_lo (by omega)]
  · rfl
theorem logs_ok {n : F1} {kd vl : Int32} (hM : MOK n) : MOK (f_X7_logs_a n kd vl) := by
  have h39 := eM_le hM
  refine ⟨?_, ?_, ?_, fun j hj => ?_⟩
  · rw [logs_lo n kd vl 74 (by omega)]; exact hM.1
  · rw [logs_lo n kd vl 111 (by omega)]; exact hM.2.1
  · have : f_X7_logs_a n kd vl 132 = nI (eM n + 1) := pk_us
    rw [this, nI_toInt (by omega)]; omega
  · rw [logs_lo n kd vl _ (by omega)]; exact hM.2.2.2 j hj
theorem ok_X7_logs_a (n : F1) (kd : Int32) (vl : Int32) (hM : MOK n) : MOK (f_X7_logs_a n kd vl) := logs_ok hM
set_option maxHeartbeats 4000000 in
set_option maxRecDepth 100000 in
theorem c_X7_logs (l : Launch) (D : va_G) (ty : Nat → ClassId) (o : Nat) (a : Nat) (b : Nat) (c_ : Nat) (g : F1) (hs : Int64) (n : F1) (kd : Int32) (vl : Int32) (hM : MOK n) : MC l D ty yX7_logs cX7_logs 4 none 0 [.ref o, .int kd, .int vl] [(o, moE g hs a b c_), (a, arE ty 253 n)] none [(o, moE g hs a b c_), (a, arE ty 253 (f_X7_logs_a n kd vl))] := by
  refine mc_v (by decide +kernel) (Nat.le_of_ble_eq_true rfl) ?_
  intro p e s m args below meth c A Q ls C hK hA X hret hl
  have hx := C.1
  have hb := C.2.1
  have hl : lv_has ls 4 [(0, .ref o), (1, .int kd), (2, .int vl)] := hl
  have X : Wd D A s.heap [(o, moE g hs a b c_), (a, arE ty 253 n)] s.heap [] := X
  obtain ⟨hn, he⟩ := eN_eq hM
  refine lv_aload_n hx hb dX7_logs_0 rfl (lv_at hl 0 rfl) ?_
  refine get_mo_0 C hK X 0 rfl fl_X7_7 dX7_logs_1 ?_
  refine lv_sipush (v := 132) hx hb dX7_logs_4 (by decide) ?_
  refine s_ialN C hK X 1 132 rfl rfl (by decide) (by decide) dX7_logs_7 ?_
  refine lv_bipush (v := 40) hx hb dX7_logs_8 (by decide) ?_
  have J61_3 : ∀ (x2 : F1) (ls : Array Slot) (H : Heap) (locs : List Loc), x2 = (v_X7_logs_2 n) → lv_has ls 4 [(0, .ref o), (1, .int kd), (2, .int vl)] → Wd D A s.heap [(o, moE g hs a b c_), (a, arE ty 253 x2)] H locs → W p l e (rmD 0) s m args below meth c H locs 0 0 Q (F0 m 61 ls []) := by
    intro x2 ls H locs ex2 hl X
    subst ex2
    have he1 := logs_e hM
    refine lv_sipush (v := 133) hx hb dX7_logs_61 (by decide) ?_
    refine lv_iconst (v := 3) hx hb dX7_logs_64 (by decide) ?_
    refine lv_aload_n hx hb dX7_logs_65 rfl (lv_at hl 0 rfl) ?_
    refine get_mo_0 C hK X 0 rfl fl_X7_7 dX7_logs_66 ?_
    refine lv_sipush (v := 132) hx hb dX7_logs_69 (by decide) ?_
    refine s_ialN C hK X 1 132 rfl rfl (by decide) (by decide) dX7_logs_72 ?_
    refine s_eqi (y := nI (eM n)) (he1.1) ?_
    refine lv_imul hx hb dX7_logs_73 ?_
    refine lv_iadd hx hb dX7_logs_74 ?_
    refine s_eqi (y := nI (133 + 3 * eM n)) (lin 3 133 _) ?_
    refine lv_istore_n (lv' := [(3, .int (nI (133 + 3 * eM n))), (0, .ref o), (1, .int kd), (2, .int vl)]) hx hb dX7_logs_75 rfl hl (by decide) rfl (fun ls hl => ?_)
    refine lv_aload_n hx hb dX7_logs_76 rfl (lv_at hl 1 rfl) ?_
    refine get_mo_0 C hK X 0 rfl fl_X7_7 dX7_logs_77 ?_
    refine lv_iload_n hx hb dX7_logs_80 rfl (lv_at hl 0 rfl) ?_
    refine lv_aload_n hx hb dX7_logs_81 rfl (lv_at hl 1 rfl) ?_
    refine get_mo_0 C hK X 0 rfl fl_X7_7 dX7_logs_82 ?_
    refine lv_iconst (v := 2) hx hb dX7_logs_85 (by decide) ?_
    refine s_ialN C hK X 1 2 rfl rfl (by decide) (by decide) dX7_logs_86 ?_
    refine s_iasN C hK X 1 (133 + 3 * eM n) rfl rfl (by omega) (by decide) dX7_logs_87 (fun H locs X => ?_)
    have X : Wd D A s.heap [(o, moE g hs a b c_), (a, arE ty 253 (upd (v_X7_logs_2 n) (133 + 3 * eM n) ((v_X7_logs_2 n) 2)))] H locs := X
    refine lv_aload_n hx hb dX7_logs_88 rfl (lv_at hl 1 rfl) ?_
    refine get_mo_0 C hK X 0 rfl fl_X7_7 dX7_logs_89 ?_
    refine lv_iload_n hx hb dX7_logs_92 rfl (lv_at hl 0 rfl) ?_
    refine lv_iconst (v := 1) hx hb dX7_logs_93 (by decide) ?_
    refine lv_iadd hx hb dX7_logs_94 ?_
    refine s_eqi (y := nI (133 + 3 * eM n + 1)) (nI_1 _) ?_
    refine lv_iload_n hx hb dX7_logs_95 rfl (lv_at hl 2 rfl) ?_
    refine s_iasN C hK X 1 (133 + 3 * eM n + 1) rfl rfl (by omega) (by decide) dX7_logs_96 (fun H locs X => ?_)
    have X : Wd D A s.heap [(o, moE g hs a b c_), (a, arE ty 253 (upd (upd (v_X7_logs_2 n) (133 + 3 * eM n) ((v_X7_logs_2 n) 2)) (133 + 3 * eM n + 1) kd))] H locs := X
    refine lv_aload_n hx hb dX7_logs_97 rfl (lv_at hl 1 rfl) ?_
    refine get_mo_0 C hK X 0 rfl fl_X7_7 dX7_logs_98 ?_
    refine lv_iload_n hx hb dX7_logs_101 rfl (lv_at hl 0 rfl) ?_
    refine lv_iconst (v := 2) hx hb dX7_logs_102 (by decide) ?_
    refine lv_iadd hx hb dX7_logs_103 ?_
    refine s_eqi (y := nI (133 + 3 * eM n + 2)) (nI_add _ 2) ?_
    refine lv_iload_n hx hb dX7_logs_104 rfl (lv_at hl 3 rfl) ?_
    refine s_iasN C hK X 1 (133 + 3 * eM n + 2) rfl rfl (by omega) (by decide) dX7_logs_105 (fun H locs X => ?_)
    have X : Wd D A s.heap [(o, moE g hs a b c_), (a, arE ty 253 (v_X7_logs_4 n kd vl))] H locs := X
    refine lv_aload_n hx hb dX7_logs_106 rfl (lv_at hl 1 rfl) ?_
    refine get_mo_0 C hK X 0 rfl fl_X7_7 dX7_logs_107 ?_
    refine lv_sipush (v := 132) hx hb dX7_logs_110 (by decide) ?_
    refine lv_dup2_11 hx hb dX7_logs_113 rfl rfl ?_
    refine s_ialN C hK X 1 132 rfl rfl (by decide) (by decide) dX7_logs_114 ?_
    refine s_eqi (y := nI (eM n)) (logs_rd hM _ _ _) ?_
    refine lv_iconst (v := 1) hx hb dX7_logs_115 (by decide) ?_
    refine lv_iadd hx hb dX7_logs_116 ?_
    refine s_eqi (y := nI (eM n + 1)) (nI_1 _) ?_
    refine s_iasN C hK X 1 132 rfl rfl (by decide) (by decide) dX7_logs_117 (fun H locs X => ?_)
    have X : Wd D A s.heap [(o, moE g hs a b c_), (a, arE ty 253 (upd (v_X7_logs_4 n kd vl) 132 (nI (eM n + 1))))] H locs := X
    have e_1_0 : (f_X7_logs_a n kd vl) = (upd (v_X7_logs_4 n kd vl) 132 (nI (eM n + 1))) := by first | (rw [f_X7_logs_a]; done) | (rw [f_X7_logs_a]; rfl) | (simp only [f_X7_logs_a]; done)
    exact hret _ _ _ _ _ dX7_logs_118 X (by rw [e_1_0])
  refine lv_icmp_ne (tgt := 61) hx hb dX7_logs_10 (by decide) (fun c0_0 => ?_) (fun c0_0 => ?_)
  · exact J61_3 n _ _ _ (by first | (rw [v_X7_logs_2, if_neg c0_0]; done) | (rw [v_X7_logs_2, if_neg c0_0]; rfl) | (simp only [v_X7_logs_2, if_neg c0_0]; done)) (lv_sub hl [0, 1, 2] rfl) X
  · refine lv_iconst (v := 0) hx hb dX7_logs_13 (by decide) ?_
    refine lv_istore_n (lv' := [(3, .int 0), (0, .ref o), (1, .int kd), (2, .int vl)]) hx hb dX7_logs_14 rfl hl (by decide) rfl (fun ls hl => ?_)
    have K1 : ∀ (y1_0 : Int32) (y1_1 : F1) (ls : Array Slot) (H : Heap) (locs : List Loc), y1_0 = 117 → y1_1 = (va_cpy n n 136 133 117) → lv_has ls 4 [(3, .int y1_0), (0, .ref o), (1, .int kd), (2, .int vl)] → Wd D A s.heap [(o, moE g hs a b c_), (a, arE ty 253 y1_1)] H locs → W p l e (rmD 0) s m args below meth c H locs 0 0 Q (F0 m 49 ls []) := by
      intro y1_0 y1_1 ls H locs ey1_0 ey1_1 hl X
      subst ey1_0; subst ey1_1
      refine lv_aload_n hx hb dX7_logs_49 rfl (lv_at hl 1 rfl) ?_
      refine get_mo_0 C hK X 0 rfl fl_X7_7 dX7_logs_50 ?_
      refine lv_sipush (v := 132) hx hb dX7_logs_53 (by decide) ?_
      refine lv_dup2_11 hx hb dX7_logs_56 rfl rfl ?_
      refine s_ialN C hK X 1 132 rfl rfl (by decide) (by decide) dX7_logs_57 ?_
      refine s_eqi (y := 40) (logs_40 c0_0) ?_
      refine lv_iconst (v := 1) hx hb dX7_logs_58 (by decide) ?_
      refine lv_isub hx hb dX7_logs_59 ?_
      refine s_eqi (y := 39) ((by decide)) ?_
      refine s_iasN C hK X 1 132 rfl rfl (by decide) (by decide) dX7_logs_60 (fun H locs X => ?_)
      have X : Wd D A s.heap [(o, moE g hs a b c_), (a, arE ty 253 (upd (va_cpy n n 136 133 117) 132 39))] H locs := X
      exact J61_3 (upd (va_cpy n n 136 133 117) 132 39) _ _ _ (by first | (rw [v_X7_logs_2, if_pos c0_0]; done) | (rw [v_X7_logs_2, if_pos c0_0]; rfl) | (simp only [v_X7_logs_2, if_pos c0_0]; done)) (lv_sub hl [1, 2, 3] rfl) X
    have L1 : ∀ (kf i : Nat) (y1_0 : Int32) (y1_1 : F1) (ls : Array Slot) (H : Heap) (locs : List Loc), 117 - i < kf → (i ≤ 117) → y1_0 = (nI i) → y1_1 = (va_cpy n n 136 133 i) → lv_has ls 4 [(3, .int y1_0), (0, .ref o), (1, .int kd), (2, .int vl)] → Wd D A s.heap [(o, moE g hs a b c_), (a, arE ty 253 y1_1)] H locs → W p l e (rmD 0) s m args below meth c H locs 0 0 Q (F0 m 15 ls []) := by
      intro kf
      induction kf with
      | zero => intro i y1_0 y1_1 ls H locs hk; exact absurd hk (Nat.not_lt_zero _)
      | succ kf ih1 =>
        intro i y1_0 y1_1 ls H locs hk hI ey1_0 ey1_1 hl X
        subst ey1_0; subst ey1_1
        refine lv_iload_n hx hb dX7_logs_15 rfl (lv_at hl 0 rfl) ?_
        refine lv_bipush (v := 117) hx hb dX7_logs_16 (by decide) ?_
        refine lv_icmp_ge (tgt := 49) hx hb dX7_logs_18 (by decide) (fun c1_1 => ?_) (fun c1_1 => ?_)
        · have hE : i = 117 := eq_of_nIle (a := 117) (by decide) (by omega) hI c1_1
          exact K1 (nI i) (va_cpy n n 136 133 i) _ _ _ (by rw [hE]; rfl) (by rw [hE]) (lv_sub hl [0, 1, 2, 3] rfl) X
        · have h1 : i < 117 := lt_of_nnIle (a := 117) (b := i) (by decide) (by omega) c1_1
          refine lv_aload_n hx hb dX7_logs_21 rfl (lv_at hl 1 rfl) ?_
          refine get_mo_0 C hK X 0 rfl fl_X7_7 dX7_logs_22 ?_
          refine lv_sipush (v := 133) hx hb dX7_logs_25 (by decide) ?_
          refine lv_iload_n hx hb dX7_logs_28 rfl (lv_at hl 0 rfl) ?_
          refine lv_iadd hx hb dX7_logs_29 ?_
          refine s_eqi (y := nI (133 + i)) (nI_add 133 i) ?_
          refine lv_aload_n hx hb dX7_logs_30 rfl (lv_at hl 1 rfl) ?_
          refine get_mo_0 C hK X 0 rfl fl_X7_7 dX7_logs_31 ?_
          refine lv_sipush (v := 133) hx hb dX7_logs_34 (by decide) ?_
          refine lv_iload_n hx hb dX7_logs_37 rfl (lv_at hl 0 rfl) ?_
          refine lv_iadd hx hb dX7_logs_38 ?_
          refine lv_iconst (v := 3) hx hb dX7_logs_39 (by decide) ?_
          refine lv_iadd hx hb dX7_logs_40 ?_
          refine s_eqi (y := nI (136 + i)) (lg_ix i) ?_
          refine s_ialN C hK X 1 (136 + i) rfl rfl (by omega) (by decide) dX7_logs_41 ?_
          refine s_eqi (y := n (136 + i)) (cpy_at (by omega)) ?_
          refine s_iasN C hK X 1 (133 + i) rfl rfl (by omega) (by decide) dX7_logs_42 (fun H locs X => ?_)
          have X : Wd D A s.heap [(o, moE g hs a b c_), (a, arE ty 253 (upd (va_cpy n n 136 133 i) (133 + i) (n (136 + i))))] H locs := X
          refine lv_iinc (v := ((nI i) + 1)) (lv' := [(3, .int ((nI i) + 1)), (0, .ref o), (1, .int kd), (2, .int vl)]) hx hb dX7_logs_43 hl (k := 0) rfl rfl (by decide) rfl (fun ls hl => ?_)
          refine lv_goto (tgt := 15) hx hb dX7_logs_46 (by decide) ?_
          have h1 : i < 117 := lt_of_nnIle (a := 117) (b := i) (by decide) (by omega) c1_1
          exact ih1 (i + 1) ((nI i) + 1) (upd (va_cpy n n 136 133 i) (133 + i) (n (136 + i))) _ _ _ (by omega) (by omega) (nI_1 i) cpy_step (lv_sub hl [0, 1, 2, 3] rfl) X
    exact L1 (117 + 1) 0 0 n _ _ _ (by omega) (Nat.zero_le _) rfl cpy_0.symm (lv_sub hl [0, 1, 2, 3] rfl) X
/-- how many values are kept behind the shift -/
def kM (j : Nat) (n : F1) : Nat := if n (10 + 16 * j + 10) = 5 then 4 else kN j n
theorem kM_le {n : F1} {j : Nat} (hM : MOK n) (hj : j < 4) : kM j n ≤ 4 := by
  obtain ⟨hk, h5⟩ := kN_eq hM hj
  unfold kM
  split
  · omega
  · rename_i c
    rcases Nat.lt_or_ge (kN j n) 5 with q | q
    · omega
    · exact absurd (by rw [hk, show kN j n = 5 by omega]; rfl) c
theorem meas_i2 (j k : Nat) : 10 + 16 * nI j + (11 + nI k) = nI (10 + 16 * j + (11 + k)) := by
  rw [show (11 : Int32) + nI k = nI (11 + k) from nI_add 11 k]; exact atN j _
def v_X7_measures_1 (n : F1) (j : Nat) : F1 := (f_X7_sets_a (f_X7_sets_a n (n (10 + 16 * j + 12)) (10 + 16 * j + 11)) ((f_X7_sets_a n (n (10 + 16 * j + 12)) (10 + 16 * j + 11)) (10 + 16 * j + 13)) (10 + 16 * j + 12))
theorem okm_X7_measures_2 (n : F1) (j : Nat) (hM : MOK n) (hj : j < 4) : MOK (v_X7_measures_1 n j) := by
  exact (MOK_w (j := j) (k := 12) (by omega) (by decide) (MOK_w (j := j) (k := 11) (by omega) (by decide) hM))
def v_X7_measures_3 (n : F1) (j : Nat) : F1 := (f_X7_sets_a (v_X7_measures_1 n j) ((v_X7_measures_1 n j) (10 + 16 * j + 14)) (10 + 16 * j + 13))
theorem okm_X7_measures_4 (n : F1) (j : Nat) (hM : MOK n) (hj : j < 4) : MOK (v_X7_measures_3 n j) := by
  exact (MOK_w (j := j) (k := 13) (by omega) (by decide) (okm_X7_measures_2 n j hM hj))
def v_X7_measures_5 (n : F1) (j : Nat) : F1 := (f_X7_sets_a (v_X7_measures_3 n j) ((v_X7_measures_3 n j) (10 + 16 * j + 15)) (10 + 16 * j + 14))
theorem okm_X7_measures_6 (n : F1) (j : Nat) (hM : MOK n) (hj : j < 4) : MOK (v_X7_measures_5 n j) := by
  exact (MOK_w (j := j) (k := 14) (by omega) (by decide) (okm_X7_measures_4 n j hM hj))
def v_X7_measures_7 (n : F1) (j : Nat) : F1 := (if (n (10 + 16 * j + 10)) = 5 then (f_X7_sets_a (v_X7_measures_5 n j) 4 (10 + 16 * j + 10)) else n)
def v_X7_measures_9 (n : F1) (j : Nat) : Int32 := (if ((v_X7_measures_7 n j) (10 + 16 * j + 9)) = 1 then 0 else ((v_X7_measures_7 n j) (10 + 16 * j + 0)))
def v_X7_measures_11 (n : F1) (j : Nat) : F1 := (f_X7_sets_a (f_X7_sets_a (v_X7_measures_7 n j) (v_X7_measures_9 n j) (10 + 16 * j + (11 + kM j n))) (nI (kM j n + 1)) (10 + 16 * j + 10))
def f_X7_measures_a (n : F1) (j : Nat) : F1 := (v_X7_measures_11 n j)
theorem meas_k {n : F1} {j : Nat} (hM : MOK n) (hj : j < 4) : (v_X7_measures_7 n j) (10 + 16 * j + 10) = nI (kM j n) ∧ kM j n ≤ 4 := by
  refine ⟨?_, kM_le hM hj⟩
  obtain ⟨hk, h5⟩ := kN_eq hM hj
  unfold v_X7_measures_7 kM f_X7_sets_a
  split
  · exact pk_us
  · exact hk
theorem meas_rd {n : F1} {j : Nat} (hM : MOK n) (hj : j < 4) (x : Int32) : (f_X7_sets_a (v_X7_measures_7 n j) x (10 + 16 * j + (11 + kM j n))) (10 + 16 * j + 10) = nI (kM j n) := by
  unfold f_X7_sets_a
  rw [pk_un (by omega)]; exact (meas_k hM hj).1
theorem measures_out (n : F1) (j q : Nat) (hM : MOK n) (hj : j < 4) (h : q < 10 + 16 * j + 10 ∨ 10 + 16 * j + 16 ≤ q) : f_X7_measures_a n j q = n q := by
  have := kM_le hM hj
  unfold f_X7_measures_a v_X7_measures_11 v_X7_measures_7 f_X7_sets_a
  rw [pk_un (by omega), pk_un (by omega)]
  split
  · unfold v_X7_measures_5 v_X7_measures_3 v_X7_measures_1 f_X7_sets_a
    rw [pk_un (by omega), pk_un (by omega), pk_un (by omega), pk_un (by omega), pk_un (by omega)]
  · rfl
theorem measures_ok {n : F1} {j : Nat} (hM : MOK n) (hj : j < 4) : MOK (f_X7_measures_a n j) := by
  have h4 := kM_le hM hj
  refine ⟨?_, ?_, ?_, fun i hi => ?_⟩
  · rw [measures_out n j 74 hM hj (by omega)]; exact hM.1
  · rw [measures_out n j 111 hM hj (by omega)]; exact hM.2.1
  · rw [measures_out n j 132 hM hj (by omega)]; exact hM.2.2.1
  · by_cases e : i = j
    · subst e
      have : f_X7_measures_a n i (10 + 16 * i + 10) = nI (kM i n + 1) := pk_us
      rw [this, nI_toInt (by omega)]; omega
    · rw [measures_out n j _ hM hj (by omega)]; exact hM.2.2.2 i hi
theorem ok_X7_measures_a (n : F1) (j : Nat) (hM : MOK n) (hj : j < 4) : MOK (f_X7_measures_a n j) := measures_ok hM hj
set_option maxHeartbeats 4000000 in
set_option maxRecDepth 100000 in
theorem c_X7_measures (l : Launch) (D : va_G) (ty : Nat → ClassId) (o : Nat) (a : Nat) (b : Nat) (c_ : Nat) (g : F1) (hs : Int64) (n : F1) (j : Nat) (hM : MOK n) (hj : j < 4) : MC l D ty yX7_measures cX7_measures 3 none 2 [.ref o, .int (nI j)] [(o, moE g hs a b c_), (a, arE ty 253 n)] none [(o, moE g hs a b c_), (a, arE ty 253 (f_X7_measures_a n j))] := by
  refine mc_v (by decide +kernel) (Nat.le_of_ble_eq_true rfl) ?_
  intro p e s m args below meth c A Q ls C hK hA X hret hl
  have hx := C.1
  have hb := C.2.1
  have hl : lv_has ls 3 [(0, .ref o), (1, .int (nI j))] := hl
  have X : Wd D A s.heap [(o, moE g hs a b c_), (a, arE ty 253 n)] s.heap [] := X
  obtain ⟨hk, hk5⟩ := kN_eq hM hj
  refine lv_aload_n hx hb dX7_measures_0 rfl (lv_at hl 0 rfl) ?_
  refine lv_iload_n hx hb dX7_measures_1 rfl (lv_at hl 1 rfl) ?_
  refine lv_bipush (v := 10) hx hb dX7_measures_2 (by decide) ?_
  refine s_cV0i C hK hA X (c_X7_get l D ty o a b c_ g hs n (nI j) 10 (10 + 16 * j + 10) (atN j 10) (by omega)) [0, 1] (pk_c rfl (pk_c rfl pk_n)) rfl ml_X7_get wm_X7_45 (q0 := 0) rfl rfl rfl ⟨Nat.le_of_ble_eq_true rfl, Nat.le_of_ble_eq_true rfl⟩ ⟨Nat.zero_le _, Nat.zero_le _⟩ hl.1 rfl (Nat.le_of_ble_eq_true rfl) dX7_measures_4 (fun H locs X => ?_)
  refine lv_iconst (v := 5) hx hb dX7_measures_7 (by decide) ?_
  have J52_8 : ∀ (x7 : F1) (ls : Array Slot) (H : Heap) (locs : List Loc), x7 = (v_X7_measures_7 n j) → lv_has ls 3 [(0, .ref o), (1, .int (nI j))] → Wd D A s.heap [(o, moE g hs a b c_), (a, arE ty 253 x7)] H locs → W p l e (rmD 2) s m args below meth c H locs 0 0 Q (F0 m 52 ls []) := by
    intro x7 ls H locs ex7 hl X
    subst ex7
    refine lv_aload_n hx hb dX7_measures_52 rfl (lv_at hl 0 rfl) ?_
    refine lv_iload_n hx hb dX7_measures_53 rfl (lv_at hl 1 rfl) ?_
    refine lv_bipush (v := 11) hx hb dX7_measures_54 (by decide) ?_
    refine lv_aload_n hx hb dX7_measures_56 rfl (lv_at hl 0 rfl) ?_
    refine lv_iload_n hx hb dX7_measures_57 rfl (lv_at hl 1 rfl) ?_
    refine lv_bipush (v := 10) hx hb dX7_measures_58 (by decide) ?_
    refine s_cV0i C hK hA X (c_X7_get l D ty o a b c_ g hs (v_X7_measures_7 n j) (nI j) 10 (10 + 16 * j + 10) (atN j 10) (by omega)) [0, 1] (pk_c rfl (pk_c rfl pk_n)) rfl ml_X7_get wm_X7_45 (q0 := 0) rfl rfl rfl ⟨Nat.le_of_ble_eq_true rfl, Nat.le_of_ble_eq_true rfl⟩ ⟨Nat.zero_le _, Nat.zero_le _⟩ hl.1 rfl (Nat.le_of_ble_eq_true rfl) dX7_measures_60 (fun H locs X => ?_)
    refine s_eqi (y := nI (kM j n)) ((meas_k hM hj).1) ?_
    refine lv_iadd hx hb dX7_measures_63 ?_
    refine lv_aload_n hx hb dX7_measures_64 rfl (lv_at hl 0 rfl) ?_
    refine lv_iload_n hx hb dX7_measures_65 rfl (lv_at hl 1 rfl) ?_
    refine lv_bipush (v := 9) hx hb dX7_measures_66 (by decide) ?_
    refine s_cV0i C hK hA X (c_X7_get l D ty o a b c_ g hs (v_X7_measures_7 n j) (nI j) 9 (10 + 16 * j + 9) (atN j 9) (by omega)) [0, 1] (pk_c rfl (pk_c rfl pk_n)) rfl ml_X7_get wm_X7_45 (q0 := 0) rfl rfl rfl ⟨Nat.le_of_ble_eq_true rfl, Nat.le_of_ble_eq_true rfl⟩ ⟨Nat.zero_le _, Nat.zero_le _⟩ hl.1 rfl (Nat.le_of_ble_eq_true rfl) dX7_measures_68 (fun H locs X => ?_)
    refine lv_iconst (v := 1) hx hb dX7_measures_71 (by decide) ?_
    have J85_10 : ∀ (x9 : Int32) (ls : Array Slot) (H : Heap) (locs : List Loc), x9 = (v_X7_measures_9 n j) → lv_has ls 3 [(0, .ref o), (1, .int (nI j))] → Wd D A s.heap [(o, moE g hs a b c_), (a, arE ty 253 (v_X7_measures_7 n j))] H locs → W p l e (rmD 2) s m args below meth c H locs 0 0 Q (F0 m 85 ls [.int x9, .int (11 + (nI (kM j n))), .int (nI j), .ref o]) := by
      intro x9 ls H locs ex9 hl X
      subst ex9
      refine s_cVv (ws' := [(o, moE g hs a b c_), (a, arE ty 253 (f_X7_sets_a (v_X7_measures_7 n j) (v_X7_measures_9 n j) (10 + 16 * j + (11 + kM j n))))]) C hK hA X (c_X7_sets l D ty o a b c_ g hs (v_X7_measures_7 n j) (nI j) (11 + (nI (kM j n))) (v_X7_measures_9 n j) (10 + 16 * j + (11 + kM j n)) (meas_i2 j (kM j n)) (by have := (meas_k hM hj).2; omega)) [0, 1] (pk_c rfl (pk_c rfl pk_n)) rfl (pk_c rfl (pk_c rfl pk_n)) (em_t (em_t em_n)) rfl ml_X7_sets wm_X7_59 (q0 := 0) rfl rfl rfl ⟨Nat.le_of_ble_eq_true rfl, Nat.le_of_ble_eq_true rfl⟩ ⟨Nat.zero_le _, Nat.zero_le _⟩ hl.1 rfl (Nat.le_of_ble_eq_true rfl) dX7_measures_85 (fun H locs X => ?_)
      refine lv_aload_n hx hb dX7_measures_88 rfl (lv_at hl 0 rfl) ?_
      refine lv_iload_n hx hb dX7_measures_89 rfl (lv_at hl 1 rfl) ?_
      refine lv_bipush (v := 10) hx hb dX7_measures_90 (by decide) ?_
      refine lv_aload_n hx hb dX7_measures_92 rfl (lv_at hl 0 rfl) ?_
      refine lv_iload_n hx hb dX7_measures_93 rfl (lv_at hl 1 rfl) ?_
      refine lv_bipush (v := 10) hx hb dX7_measures_94 (by decide) ?_
      refine s_cV0i C hK hA X (c_X7_get l D ty o a b c_ g hs (f_X7_sets_a (v_X7_measures_7 n j) (v_X7_measures_9 n j) (10 + 16 * j + (11 + kM j n))) (nI j) 10 (10 + 16 * j + 10) (atN j 10) (by omega)) [0, 1] (pk_c rfl (pk_c rfl pk_n)) rfl ml_X7_get wm_X7_45 (q0 := 0) rfl rfl rfl ⟨Nat.le_of_ble_eq_true rfl, Nat.le_of_ble_eq_true rfl⟩ ⟨Nat.zero_le _, Nat.zero_le _⟩ hl.1 rfl (Nat.le_of_ble_eq_true rfl) dX7_measures_96 (fun H locs X => ?_)
      refine s_eqi (y := nI (kM j n)) (meas_rd hM hj _) ?_
      refine lv_iconst (v := 1) hx hb dX7_measures_99 (by decide) ?_
      refine lv_iadd hx hb dX7_measures_100 ?_
      refine s_eqi (y := nI (kM j n + 1)) (nI_1 _) ?_
      refine s_cVv (ws' := [(o, moE g hs a b c_), (a, arE ty 253 (v_X7_measures_11 n j))]) C hK hA X (c_X7_sets l D ty o a b c_ g hs (f_X7_sets_a (v_X7_measures_7 n j) (v_X7_measures_9 n j) (10 + 16 * j + (11 + kM j n))) (nI j) 10 (nI (kM j n + 1)) (10 + 16 * j + 10) (atN j 10) (by omega)) [0, 1] (pk_c rfl (pk_c rfl pk_n)) rfl (pk_c rfl (pk_c rfl pk_n)) (em_t (em_t em_n)) rfl ml_X7_sets wm_X7_59 (q0 := 0) rfl rfl rfl ⟨Nat.le_of_ble_eq_true rfl, Nat.le_of_ble_eq_true rfl⟩ ⟨Nat.zero_le _, Nat.zero_le _⟩ hl.1 rfl (Nat.le_of_ble_eq_true rfl) dX7_measures_101 (fun H locs X => ?_)
      have e_1_0 : (f_X7_measures_a n j) = (v_X7_measures_11 n j) := by first | (rw [f_X7_measures_a]; done) | (rw [f_X7_measures_a]; rfl) | (simp only [f_X7_measures_a]; done)
      exact hret _ _ _ _ _ dX7_measures_104 X (by rw [e_1_0])
    refine lv_icmp_ne (tgt := 79) hx hb dX7_measures_72 (by decide) (fun c0_0 => ?_) (fun c0_0 => ?_)
    · refine lv_aload_n hx hb dX7_measures_79 rfl (lv_at hl 0 rfl) ?_
      refine lv_iload_n hx hb dX7_measures_80 rfl (lv_at hl 1 rfl) ?_
      refine lv_iconst (v := 0) hx hb dX7_measures_81 (by decide) ?_
      refine s_cV0i C hK hA X (c_X7_get l D ty o a b c_ g hs (v_X7_measures_7 n j) (nI j) 0 (10 + 16 * j + 0) (atN j 0) (by omega)) [0, 1] (pk_c rfl (pk_c rfl pk_n)) rfl ml_X7_get wm_X7_45 (q0 := 0) rfl rfl rfl ⟨Nat.le_of_ble_eq_true rfl, Nat.le_of_ble_eq_true rfl⟩ ⟨Nat.zero_le _, Nat.zero_le _⟩ hl.1 rfl (Nat.le_of_ble_eq_true rfl) dX7_measures_82 (fun H locs X => ?_)
      exact J85_10 ((v_X7_measures_7 n j) (10 + 16 * j + 0)) _ _ _ (by first | (rw [v_X7_measures_9, if_neg c0_0]; done) | (rw [v_X7_measures_9, if_neg c0_0]; rfl) | (simp only [v_X7_measures_9, if_neg c0_0]; done)) (lv_sub hl [0, 1] rfl) X
    · refine lv_iconst (v := 0) hx hb dX7_measures_75 (by decide) ?_
      refine lv_goto (tgt := 85) hx hb dX7_measures_76 (by decide) ?_
      exact J85_10 0 _ _ _ (by first | (rw [v_X7_measures_9, if_pos c0_0]; done) | (rw [v_X7_measures_9, if_pos c0_0]; rfl) | (simp only [v_X7_measures_9, if_pos c0_0]; done)) (lv_sub hl [0, 1] rfl) X
  refine lv_icmp_ne (tgt := 52) hx hb dX7_measures_8 (by decide) (fun c0_0 => ?_) (fun c0_0 => ?_)
  · exact J52_8 n _ _ _ (by first | (rw [v_X7_measures_7, if_neg c0_0]; done) | (rw [v_X7_measures_7, if_neg c0_0]; rfl) | (simp only [v_X7_measures_7, if_neg c0_0]; done)) (lv_sub hl [0, 1] rfl) X
  · refine lv_iconst (v := 0) hx hb dX7_measures_11 (by decide) ?_
    refine lv_istore_n (lv' := [(2, .int 0), (0, .ref o), (1, .int (nI j))]) hx hb dX7_measures_12 rfl hl (by decide) rfl (fun ls hl => ?_)
    refine lv_iload_n hx hb dX7_measures_13 rfl (lv_at hl 0 rfl) ?_
    refine lv_iconst (v := 4) hx hb dX7_measures_14 (by decide) ?_
    refine lv_icmp_ge (tgt := 44) hx hb dX7_measures_15 (by decide) (fun c0 => absurd c0 (by decide)) (fun _ => ?_)
    refine lv_aload_n hx hb dX7_measures_18 rfl (lv_at hl 1 rfl) ?_
    refine lv_iload_n hx hb dX7_measures_19 rfl (lv_at hl 2 rfl) ?_
    refine lv_bipush (v := 11) hx hb dX7_measures_20 (by decide) ?_
    refine lv_iload_n hx hb dX7_measures_22 rfl (lv_at hl 0 rfl) ?_
    refine lv_iadd hx hb dX7_measures_23 ?_
    refine s_eqi (y := 11) (by decide) ?_
    refine lv_aload_n hx hb dX7_measures_24 rfl (lv_at hl 1 rfl) ?_
    refine lv_iload_n hx hb dX7_measures_25 rfl (lv_at hl 2 rfl) ?_
    refine lv_bipush (v := 11) hx hb dX7_measures_26 (by decide) ?_
    refine lv_iload_n hx hb dX7_measures_28 rfl (lv_at hl 0 rfl) ?_
    refine lv_iadd hx hb dX7_measures_29 ?_
    refine s_eqi (y := 11) (by decide) ?_
    refine lv_iconst (v := 1) hx hb dX7_measures_30 (by decide) ?_
    refine lv_iadd hx hb dX7_measures_31 ?_
    refine s_eqi (y := 12) (by decide) ?_
    refine s_cV0i C hK hA X (c_X7_get l D ty o a b c_ g hs n (nI j) 12 (10 + 16 * j + 12) (atN j 12) (by omega)) [0, 1] (pk_c rfl (pk_c rfl pk_n)) rfl ml_X7_get wm_X7_45 (q0 := 0) rfl rfl rfl ⟨Nat.le_of_ble_eq_true rfl, Nat.le_of_ble_eq_true rfl⟩ ⟨Nat.zero_le _, Nat.zero_le _⟩ hl.1 rfl (Nat.le_of_ble_eq_true rfl) dX7_measures_32 (fun H locs X => ?_)
    refine s_cVv (ws' := [(o, moE g hs a b c_), (a, arE ty 253 (f_X7_sets_a n (n (10 + 16 * j + 12)) (10 + 16 * j + 11)))]) C hK hA X (c_X7_sets l D ty o a b c_ g hs n (nI j) 11 (n (10 + 16 * j + 12)) (10 + 16 * j + 11) (atN j 11) (by omega)) [0, 1] (pk_c rfl (pk_c rfl pk_n)) rfl (pk_c rfl (pk_c rfl pk_n)) (em_t (em_t em_n)) rfl ml_X7_sets wm_X7_59 (q0 := 0) rfl rfl rfl ⟨Nat.le_of_ble_eq_true rfl, Nat.le_of_ble_eq_true rfl⟩ ⟨Nat.zero_le _, Nat.zero_le _⟩ hl.1 rfl (Nat.le_of_ble_eq_true rfl) dX7_measures_35 (fun H locs X => ?_)
    refine lv_iinc (v := 1) (lv' := [(2, .int 1), (0, .ref o), (1, .int (nI j))]) hx hb dX7_measures_38 hl (k := 0) rfl (by decide) (by decide) rfl (fun ls hl => ?_)
    refine lv_goto (tgt := 13) hx hb dX7_measures_41 (by decide) ?_
    refine lv_iload_n hx hb dX7_measures_13 rfl (lv_at hl 0 rfl) ?_
    refine lv_iconst (v := 4) hx hb dX7_measures_14 (by decide) ?_
    refine lv_icmp_ge (tgt := 44) hx hb dX7_measures_15 (by decide) (fun c0 => absurd c0 (by decide)) (fun _ => ?_)
    refine lv_aload_n hx hb dX7_measures_18 rfl (lv_at hl 1 rfl) ?_
    refine lv_iload_n hx hb dX7_measures_19 rfl (lv_at hl 2 rfl) ?_
    refine lv_bipush (v := 11) hx hb dX7_measures_20 (by decide) ?_
    refine lv_iload_n hx hb dX7_measures_22 rfl (lv_at hl 0 rfl) ?_
    refine lv_iadd hx hb dX7_measures_23 ?_
    refine s_eqi (y := 12) (by decide) ?_
    refine lv_aload_n hx hb dX7_measures_24 rfl (lv_at hl 1 rfl) ?_
    refine lv_iload_n hx hb dX7_measures_25 rfl (lv_at hl 2 rfl) ?_
    refine lv_bipush (v := 11) hx hb dX7_measures_26 (by decide) ?_
    refine lv_iload_n hx hb dX7_measures_28 rfl (lv_at hl 0 rfl) ?_
    refine lv_iadd hx hb dX7_measures_29 ?_
    refine s_eqi (y := 12) (by decide) ?_
    refine lv_iconst (v := 1) hx hb dX7_measures_30 (by decide) ?_
    refine lv_iadd hx hb dX7_measures_31 ?_
    refine s_eqi (y := 13) (by decide) ?_
    refine s_cV0i C hK hA X (c_X7_get l D ty o a b c_ g hs (f_X7_sets_a n (n (10 + 16 * j + 12)) (10 + 16 * j + 11)) (nI j) 13 (10 + 16 * j + 13) (atN j 13) (by omega)) [0, 1] (pk_c rfl (pk_c rfl pk_n)) rfl ml_X7_get wm_X7_45 (q0 := 0) rfl rfl rfl ⟨Nat.le_of_ble_eq_true rfl, Nat.le_of_ble_eq_true rfl⟩ ⟨Nat.zero_le _, Nat.zero_le _⟩ hl.1 rfl (Nat.le_of_ble_eq_true rfl) dX7_measures_32 (fun H locs X => ?_)
    refine s_cVv (ws' := [(o, moE g hs a b c_), (a, arE ty 253 (v_X7_measures_1 n j))]) C hK hA X (c_X7_sets l D ty o a b c_ g hs (f_X7_sets_a n (n (10 + 16 * j + 12)) (10 + 16 * j + 11)) (nI j) 12 ((f_X7_sets_a n (n (10 + 16 * j + 12)) (10 + 16 * j + 11)) (10 + 16 * j + 13)) (10 + 16 * j + 12) (atN j 12) (by omega)) [0, 1] (pk_c rfl (pk_c rfl pk_n)) rfl (pk_c rfl (pk_c rfl pk_n)) (em_t (em_t em_n)) rfl ml_X7_sets wm_X7_59 (q0 := 0) rfl rfl rfl ⟨Nat.le_of_ble_eq_true rfl, Nat.le_of_ble_eq_true rfl⟩ ⟨Nat.zero_le _, Nat.zero_le _⟩ hl.1 rfl (Nat.le_of_ble_eq_true rfl) dX7_measures_35 (fun H locs X => ?_)
    refine lv_iinc (v := 2) (lv' := [(2, .int 2), (0, .ref o), (1, .int (nI j))]) hx hb dX7_measures_38 hl (k := 0) rfl (by decide) (by decide) rfl (fun ls hl => ?_)
    refine lv_goto (tgt := 13) hx hb dX7_measures_41 (by decide) ?_
    refine lv_iload_n hx hb dX7_measures_13 rfl (lv_at hl 0 rfl) ?_
    refine lv_iconst (v := 4) hx hb dX7_measures_14 (by decide) ?_
    refine lv_icmp_ge (tgt := 44) hx hb dX7_measures_15 (by decide) (fun c0 => absurd c0 (by decide)) (fun _ => ?_)
    refine lv_aload_n hx hb dX7_measures_18 rfl (lv_at hl 1 rfl) ?_
    refine lv_iload_n hx hb dX7_measures_19 rfl (lv_at hl 2 rfl) ?_
    refine lv_bipush (v := 11) hx hb dX7_measures_20 (by decide) ?_
    refine lv_iload_n hx hb dX7_measures_22 rfl (lv_at hl 0 rfl) ?_
    refine lv_iadd hx hb dX7_measures_23 ?_
    refine s_eqi (y := 13) (by decide) ?_
    refine lv_aload_n hx hb dX7_measures_24 rfl (lv_at hl 1 rfl) ?_
    refine lv_iload_n hx hb dX7_measures_25 rfl (lv_at hl 2 rfl) ?_
    refine lv_bipush (v := 11) hx hb dX7_measures_26 (by decide) ?_
    refine lv_iload_n hx hb dX7_measures_28 rfl (lv_at hl 0 rfl) ?_
    refine lv_iadd hx hb dX7_measures_29 ?_
    refine s_eqi (y := 13) (by decide) ?_
    refine lv_iconst (v := 1) hx hb dX7_measures_30 (by decide) ?_
    refine lv_iadd hx hb dX7_measures_31 ?_
    refine s_eqi (y := 14) (by decide) ?_
    refine s_cV0i C hK hA X (c_X7_get l D ty o a b c_ g hs (v_X7_measures_1 n j) (nI j) 14 (10 + 16 * j + 14) (atN j 14) (by omega)) [0, 1] (pk_c rfl (pk_c rfl pk_n)) rfl ml_X7_get wm_X7_45 (q0 := 0) rfl rfl rfl ⟨Nat.le_of_ble_eq_true rfl, Nat.le_of_ble_eq_true rfl⟩ ⟨Nat.zero_le _, Nat.zero_le _⟩ hl.1 rfl (Nat.le_of_ble_eq_true rfl) dX7_measures_32 (fun H locs X => ?_)
    refine s_cVv (ws' := [(o, moE g hs a b c_), (a, arE ty 253 (v_X7_measures_3 n j))]) C hK hA X (c_X7_sets l D ty o a b c_ g hs (v_X7_measures_1 n j) (nI j) 13 ((v_X7_measures_1 n j) (10 + 16 * j + 14)) (10 + 16 * j + 13) (atN j 13) (by omega)) [0, 1] (pk_c rfl (pk_c rfl pk_n)) rfl (pk_c rfl (pk_c rfl pk_n)) (em_t (em_t em_n)) rfl ml_X7_sets wm_X7_59 (q0 := 0) rfl rfl rfl ⟨Nat.le_of_ble_eq_true rfl, Nat.le_of_ble_eq_true rfl⟩ ⟨Nat.zero_le _, Nat.zero_le _⟩ hl.1 rfl (Nat.le_of_ble_eq_true rfl) dX7_measures_35 (fun H locs X => ?_)
    refine lv_iinc (v := 3) (lv' := [(2, .int 3), (0, .ref o), (1, .int (nI j))]) hx hb dX7_measures_38 hl (k := 0) rfl (by decide) (by decide) rfl (fun ls hl => ?_)
    refine lv_goto (tgt := 13) hx hb dX7_measures_41 (by decide) ?_
    refine lv_iload_n hx hb dX7_measures_13 rfl (lv_at hl 0 rfl) ?_
    refine lv_iconst (v := 4) hx hb dX7_measures_14 (by decide) ?_
    refine lv_icmp_ge (tgt := 44) hx hb dX7_measures_15 (by decide) (fun c0 => absurd c0 (by decide)) (fun _ => ?_)
    refine lv_aload_n hx hb dX7_measures_18 rfl (lv_at hl 1 rfl) ?_
    refine lv_iload_n hx hb dX7_measures_19 rfl (lv_at hl 2 rfl) ?_
    refine lv_bipush (v := 11) hx hb dX7_measures_20 (by decide) ?_
    refine lv_iload_n hx hb dX7_measures_22 rfl (lv_at hl 0 rfl) ?_
    refine lv_iadd hx hb dX7_measures_23 ?_
    refine s_eqi (y := 14) (by decide) ?_
    refine lv_aload_n hx hb dX7_measures_24 rfl (lv_at hl 1 rfl) ?_
    refine lv_iload_n hx hb dX7_measures_25 rfl (lv_at hl 2 rfl) ?_
    refine lv_bipush (v := 11) hx hb dX7_measures_26 (by decide) ?_
    refine lv_iload_n hx hb dX7_measures_28 rfl (lv_at hl 0 rfl) ?_
    refine lv_iadd hx hb dX7_measures_29 ?_
    refine s_eqi (y := 14) (by decide) ?_
    refine lv_iconst (v := 1) hx hb dX7_measures_30 (by decide) ?_
    refine lv_iadd hx hb dX7_measures_31 ?_
    refine s_eqi (y := 15) (by decide) ?_
    refine s_cV0i C hK hA X (c_X7_get l D ty o a b c_ g hs (v_X7_measures_3 n j) (nI j) 15 (10 + 16 * j + 15) (atN j 15) (by omega)) [0, 1] (pk_c rfl (pk_c rfl pk_n)) rfl ml_X7_get wm_X7_45 (q0 := 0) rfl rfl rfl ⟨Nat.le_of_ble_eq_true rfl, Nat.le_of_ble_eq_true rfl⟩ ⟨Nat.zero_le _, Nat.zero_le _⟩ hl.1 rfl (Nat.le_of_ble_eq_true rfl) dX7_measures_32 (fun H locs X => ?_)
    refine s_cVv (ws' := [(o, moE g hs a b c_), (a, arE ty 253 (v_X7_measures_5 n j))]) C hK hA X (c_X7_sets l D ty o a b c_ g hs (v_X7_measures_3 n j) (nI j) 14 ((v_X7_measures_3 n j) (10 + 16 * j + 15)) (10 + 16 * j + 14) (atN j 14) (by omega)) [0, 1] (pk_c rfl (pk_c rfl pk_n)) rfl (pk_c rfl (pk_c rfl pk_n)) (em_t (em_t em_n)) rfl ml_X7_sets wm_X7_59 (q0 := 0) rfl rfl rfl ⟨Nat.le_of_ble_eq_true rfl, Nat.le_of_ble_eq_true rfl⟩ ⟨Nat.zero_le _, Nat.zero_le _⟩ hl.1 rfl (Nat.le_of_ble_eq_true rfl) dX7_measures_35 (fun H locs X => ?_)
    refine lv_iinc (v := 4) (lv' := [(2, .int 4), (0, .ref o), (1, .int (nI j))]) hx hb dX7_measures_38 hl (k := 0) rfl (by decide) (by decide) rfl (fun ls hl => ?_)
    refine lv_goto (tgt := 13) hx hb dX7_measures_41 (by decide) ?_
    refine lv_iload_n hx hb dX7_measures_13 rfl (lv_at hl 0 rfl) ?_
    refine lv_iconst (v := 4) hx hb dX7_measures_14 (by decide) ?_
    refine lv_icmp_ge (tgt := 44) hx hb dX7_measures_15 (by decide) (fun _ => ?_) (fun c0 => absurd (by decide) c0)
    refine lv_aload_n hx hb dX7_measures_44 rfl (lv_at hl 1 rfl) ?_
    refine lv_iload_n hx hb dX7_measures_45 rfl (lv_at hl 2 rfl) ?_
    refine lv_bipush (v := 10) hx hb dX7_measures_46 (by decide) ?_
    refine lv_iconst (v := 4) hx hb dX7_measures_48 (by decide) ?_
    refine s_cVv (ws' := [(o, moE g hs a b c_), (a, arE ty 253 (f_X7_sets_a (v_X7_measures_5 n j) 4 (10 + 16 * j + 10)))]) C hK hA X (c_X7_sets l D ty o a b c_ g hs (v_X7_measures_5 n j) (nI j) 10 4 (10 + 16 * j + 10) (atN j 10) (by omega)) [0, 1] (pk_c rfl (pk_c rfl pk_n)) rfl (pk_c rfl (pk_c rfl pk_n)) (em_t (em_t em_n)) rfl ml_X7_sets wm_X7_59 (q0 := 0) rfl rfl rfl ⟨Nat.le_of_ble_eq_true rfl, Nat.le_of_ble_eq_true rfl⟩ ⟨Nat.zero_le _, Nat.zero_le _⟩ hl.1 rfl (Nat.le_of_ble_eq_true rfl) dX7_measures_49 (fun H locs X => ?_)
    exact J52_8 (f_X7_sets_a (v_X7_measures_5 n j) 4 (10 + 16 * j + 10)) _ _ _ (by first | (rw [v_X7_measures_7, if_pos c0_0]; done) | (rw [v_X7_measures_7, if_pos c0_0]; rfl) | (simp only [v_X7_measures_7, if_pos c0_0]; done)) (lv_sub hl [1, 2] rfl) X
def v_X7_refers_1 (n : F1) : Int32 := (if (n 17) = 0 then (f_X7_greater 0 (f_X7_measured n 0)) else 0)
def v_X7_refers_3 (n : F1) : Int32 := (if (n 33) = 0 then (f_X7_greater (v_X7_refers_1 n) (f_X7_measured n 1)) else (v_X7_refers_1 n))
def v_X7_refers_5 (n : F1) : Int32 := (if (n 49) = 0 then (f_X7_greater (v_X7_refers_3 n) (f_X7_measured n 2)) else (v_X7_refers_3 n))
def v_X7_refers_7 (n : F1) : Int32 := (if (n 65) = 0 then (f_X7_greater (v_X7_refers_5 n) (f_X7_measured n 3)) else (v_X7_refers_5 n))
def v_X7_refers_9 (n : F1) : Int32 := (if (v_X7_refers_7 n) < (n 4) then (f_X7_greater (v_X7_refers_7 n) ((n 4) - 120)) else (f_X7_lesser (v_X7_refers_7 n) ((n 4) + 60)))
def f_X7_refers_a (n : F1) : F1 := (upd n 4 (v_X7_refers_9 n))
theorem ok_X7_refers_a (n : F1) (hM : MOK n) : MOK (f_X7_refers_a n) := by
  (try simp only [f_X7_refers_a]); exact (MOK_i (by decide) hM)
set_option maxHeartbeats 4000000 in
set_option maxRecDepth 100000 in
theorem c_X7_refers (l : Launch) (D : va_G) (ty : Nat → ClassId) (o : Nat) (a : Nat) (b : Nat) (c_ : Nat) (g : F1) (hs : Int64) (n : F1) (hM : MOK n) : MC l D ty yX7_refers cX7_refers 3 none 3 [.ref o] [(o, moE g hs a b c_), (a, arE ty 253 n)] none [(o, moE g hs a b c_), (a, arE ty 253 (f_X7_refers_a n))] := by
  refine mc_v (by decide +kernel) (Nat.le_of_ble_eq_true rfl) ?_
  intro p e s m args below meth c A Q ls C hK hA X hret hl
  have hx := C.1
  have hb := C.2.1
  have hl : lv_has ls 3 [(0, .ref o)] := hl
  have X : Wd D A s.heap [(o, moE g hs a b c_), (a, arE ty 253 n)] s.heap [] := X
  refine lv_iconst (v := 0) hx hb dX7_refers_0 (by decide) ?_
  refine lv_istore_n (lv' := [(1, .int 0), (0, .ref o)]) hx hb dX7_refers_1 rfl hl (by decide) rfl (fun ls hl => ?_)
  refine lv_iconst (v := 0) hx hb dX7_refers_2 (by decide) ?_
  refine lv_istore_n (lv' := [(2, .int 0), (1, .int 0), (0, .ref o)]) hx hb dX7_refers_3 rfl hl (by decide) rfl (fun ls hl => ?_)
  refine lv_iload_n hx hb dX7_refers_4 rfl (lv_at hl 0 rfl) ?_
  refine lv_iconst (v := 4) hx hb dX7_refers_5 (by decide) ?_
  refine lv_icmp_ge (tgt := 39) hx hb dX7_refers_6 (by decide) (fun c0 => absurd c0 (by decide)) (fun _ => ?_)
  refine lv_aload_n hx hb dX7_refers_9 rfl (lv_at hl 2 rfl) ?_
  refine lv_iload_n hx hb dX7_refers_10 rfl (lv_at hl 0 rfl) ?_
  refine lv_bipush (v := 7) hx hb dX7_refers_11 (by decide) ?_
  refine s_cV0i C hK hA X (c_X7_get l D ty o a b c_ g hs n 0 7 17 (by decide) (by decide)) [0, 1] (pk_c rfl (pk_c rfl pk_n)) rfl ml_X7_get wm_X7_45 (q0 := 0) rfl rfl rfl ⟨Nat.le_of_ble_eq_true rfl, Nat.le_of_ble_eq_true rfl⟩ ⟨Nat.zero_le _, Nat.zero_le _⟩ hl.1 rfl (Nat.le_of_ble_eq_true rfl) dX7_refers_13 (fun H locs X => ?_)
  have J32_2 : ∀ (x1 : Int32) (ls : Array Slot) (H : Heap) (locs : List Loc), x1 = (v_X7_refers_1 n) → lv_has ls 3 [(2, .int 0), (1, .int 0), (0, .ref o)] → Wd D A s.heap [(o, moE g hs a b c_), (a, arE ty 253 n)] H locs → W p l e (rmD 3) s m args below meth c H locs 0 0 Q (F0 m 32 ls [.int x1]) := by
    intro x1 ls H locs ex1 hl X
    subst ex1
    refine lv_istore_n (lv' := [(1, .int (v_X7_refers_1 n)), (2, .int 0), (0, .ref o)]) hx hb dX7_refers_32 rfl hl (by decide) rfl (fun ls hl => ?_)
    refine lv_iinc (v := 1) (lv' := [(2, .int 1), (1, .int (v_X7_refers_1 n)), (0, .ref o)]) hx hb dX7_refers_33 hl (k := 1) rfl (by decide) (by decide) rfl (fun ls hl => ?_)
    refine lv_goto (tgt := 4) hx hb dX7_refers_36 (by decide) ?_
    refine lv_iload_n hx hb dX7_refers_4 rfl (lv_at hl 0 rfl) ?_
    refine lv_iconst (v := 4) hx hb dX7_refers_5 (by decide) ?_
    refine lv_icmp_ge (tgt := 39) hx hb dX7_refers_6 (by decide) (fun c0 => absurd c0 (by decide)) (fun _ => ?_)
    refine lv_aload_n hx hb dX7_refers_9 rfl (lv_at hl 2 rfl) ?_
    refine lv_iload_n hx hb dX7_refers_10 rfl (lv_at hl 0 rfl) ?_
    refine lv_bipush (v := 7) hx hb dX7_refers_11 (by decide) ?_
    refine s_cV0i C hK hA X (c_X7_get l D ty o a b c_ g hs n 1 7 33 (by decide) (by decide)) [0, 1] (pk_c rfl (pk_c rfl pk_n)) rfl ml_X7_get wm_X7_45 (q0 := 0) rfl rfl rfl ⟨Nat.le_of_ble_eq_true rfl, Nat.le_of_ble_eq_true rfl⟩ ⟨Nat.zero_le _, Nat.zero_le _⟩ hl.1 rfl (Nat.le_of_ble_eq_true rfl) dX7_refers_13 (fun H locs X => ?_)
    have J32_4 : ∀ (x3 : Int32) (ls : Array Slot) (H : Heap) (locs : List Loc), x3 = (v_X7_refers_3 n) → lv_has ls 3 [(2, .int 1), (1, .int (v_X7_refers_1 n)), (0, .ref o)] → Wd D A s.heap [(o, moE g hs a b c_), (a, arE ty 253 n)] H locs → W p l e (rmD 3) s m args below meth c H locs 0 0 Q (F0 m 32 ls [.int x3]) := by
      intro x3 ls H locs ex3 hl X
      subst ex3
      refine lv_istore_n (lv' := [(1, .int (v_X7_refers_3 n)), (2, .int 1), (0, .ref o)]) hx hb dX7_refers_32 rfl hl (by decide) rfl (fun ls hl => ?_)
      refine lv_iinc (v := 2) (lv' := [(2, .int 2), (1, .int (v_X7_refers_3 n)), (0, .ref o)]) hx hb dX7_refers_33 hl (k := 1) rfl (by decide) (by decide) rfl (fun ls hl => ?_)
      refine lv_goto (tgt := 4) hx hb dX7_refers_36 (by decide) ?_
      refine lv_iload_n hx hb dX7_refers_4 rfl (lv_at hl 0 rfl) ?_
      refine lv_iconst (v := 4) hx hb dX7_refers_5 (by decide) ?_
      refine lv_icmp_ge (tgt := 39) hx hb dX7_refers_6 (by decide) (fun c0 => absurd c0 (by decide)) (fun _ => ?_)
      refine lv_aload_n hx hb dX7_refers_9 rfl (lv_at hl 2 rfl) ?_
      refine lv_iload_n hx hb dX7_refers_10 rfl (lv_at hl 0 rfl) ?_
      refine lv_bipush (v := 7) hx hb dX7_refers_11 (by decide) ?_
      refine s_cV0i C hK hA X (c_X7_get l D ty o a b c_ g hs n 2 7 49 (by decide) (by decide)) [0, 1] (pk_c rfl (pk_c rfl pk_n)) rfl ml_X7_get wm_X7_45 (q0 := 0) rfl rfl rfl ⟨Nat.le_of_ble_eq_true rfl, Nat.le_of_ble_eq_true rfl⟩ ⟨Nat.zero_le _, Nat.zero_le _⟩ hl.1 rfl (Nat.le_of_ble_eq_true rfl) dX7_refers_13 (fun H locs X => ?_)
      have J32_6 : ∀ (x5 : Int32) (ls : Array Slot) (H : Heap) (locs : List Loc), x5 = (v_X7_refers_5 n) → lv_has ls 3 [(2, .int 2), (1, .int (v_X7_refers_3 n)), (0, .ref o)] → Wd D A s.heap [(o, moE g hs a b c_), (a, arE ty 253 n)] H locs → W p l e (rmD 3) s m args below meth c H locs 0 0 Q (F0 m 32 ls [.int x5]) := by
        intro x5 ls H locs ex5 hl X
        subst ex5
        refine lv_istore_n (lv' := [(1, .int (v_X7_refers_5 n)), (2, .int 2), (0, .ref o)]) hx hb dX7_refers_32 rfl hl (by decide) rfl (fun ls hl => ?_)
        refine lv_iinc (v := 3) (lv' := [(2, .int 3), (1, .int (v_X7_refers_5 n)), (0, .ref o)]) hx hb dX7_refers_33 hl (k := 1) rfl (by decide) (by decide) rfl (fun ls hl => ?_)
        refine lv_goto (tgt := 4) hx hb dX7_refers_36 (by decide) ?_
        refine lv_iload_n hx hb dX7_refers_4 rfl (lv_at hl 0 rfl) ?_
        refine lv_iconst (v := 4) hx hb dX7_refers_5 (by decide) ?_
        refine lv_icmp_ge (tgt := 39) hx hb dX7_refers_6 (by decide) (fun c0 => absurd c0 (by decide)) (fun _ => ?_)
        refine lv_aload_n hx hb dX7_refers_9 rfl (lv_at hl 2 rfl) ?_
        refine lv_iload_n hx hb dX7_refers_10 rfl (lv_at hl 0 rfl) ?_
        refine lv_bipush (v := 7) hx hb dX7_refers_11 (by decide) ?_
        refine s_cV0i C hK hA X (c_X7_get l D ty o a b c_ g hs n 3 7 65 (by decide) (by decide)) [0, 1] (pk_c rfl (pk_c rfl pk_n)) rfl ml_X7_get wm_X7_45 (q0 := 0) rfl rfl rfl ⟨Nat.le_of_ble_eq_true rfl, Nat.le_of_ble_eq_true rfl⟩ ⟨Nat.zero_le _, Nat.zero_le _⟩ hl.1 rfl (Nat.le_of_ble_eq_true rfl) dX7_refers_13 (fun H locs X => ?_)
        have J32_8 : ∀ (x7 : Int32) (ls : Array Slot) (H : Heap) (locs : List Loc), x7 = (v_X7_refers_7 n) → lv_has ls 3 [(2, .int 3), (1, .int (v_X7_refers_5 n)), (0, .ref o)] → Wd D A s.heap [(o, moE g hs a b c_), (a, arE ty 253 n)] H locs → W p l e (rmD 3) s m args below meth c H locs 0 0 Q (F0 m 32 ls [.int x7]) := by
          intro x7 ls H locs ex7 hl X
          subst ex7
          refine lv_istore_n (lv' := [(1, .int (v_X7_refers_7 n)), (2, .int 3), (0, .ref o)]) hx hb dX7_refers_32 rfl hl (by decide) rfl (fun ls hl => ?_)
          refine lv_iinc (v := 4) (lv' := [(2, .int 4), (1, .int (v_X7_refers_7 n)), (0, .ref o)]) hx hb dX7_refers_33 hl (k := 1) rfl (by decide) (by decide) rfl (fun ls hl => ?_)
          refine lv_goto (tgt := 4) hx hb dX7_refers_36 (by decide) ?_
          refine lv_iload_n hx hb dX7_refers_4 rfl (lv_at hl 0 rfl) ?_
          refine lv_iconst (v := 4) hx hb dX7_refers_5 (by decide) ?_
          refine lv_icmp_ge (tgt := 39) hx hb dX7_refers_6 (by decide) (fun _ => ?_) (fun c0 => absurd (by decide) c0)
          refine lv_aload_n hx hb dX7_refers_39 rfl (lv_at hl 2 rfl) ?_
          refine get_mo_0 C hK X 0 rfl fl_X7_7 dX7_refers_40 ?_
          refine lv_iconst (v := 4) hx hb dX7_refers_43 (by decide) ?_
          refine s_ialN C hK X 1 4 rfl rfl (by decide) (by decide) dX7_refers_44 ?_
          refine lv_istore_n (lv' := [(2, .int (n 4)), (1, .int (v_X7_refers_7 n)), (0, .ref o)]) hx hb dX7_refers_45 rfl hl (by decide) rfl (fun ls hl => ?_)
          refine lv_aload_n hx hb dX7_refers_46 rfl (lv_at hl 2 rfl) ?_
          refine get_mo_0 C hK X 0 rfl fl_X7_7 dX7_refers_47 ?_
          refine lv_iconst (v := 4) hx hb dX7_refers_50 (by decide) ?_
          refine lv_iload_n hx hb dX7_refers_51 rfl (lv_at hl 1 rfl) ?_
          refine lv_iload_n hx hb dX7_refers_52 rfl (lv_at hl 0 rfl) ?_
          have J75_10 : ∀ (x9 : Int32) (ls : Array Slot) (H : Heap) (locs : List Loc), x9 = (v_X7_refers_9 n) → lv_has ls 3 [(2, .int (n 4)), (1, .int (v_X7_refers_7 n)), (0, .ref o)] → Wd D A s.heap [(o, moE g hs a b c_), (a, arE ty 253 n)] H locs → W p l e (rmD 3) s m args below meth c H locs 0 0 Q (F0 m 75 ls [.int x9, .int 4, .ref a]) := by
            intro x9 ls H locs ex9 hl X
            subst ex9
            refine s_iasN C hK X 1 4 rfl rfl (by decide) (by decide) dX7_refers_75 (fun H locs X => ?_)
            have X : Wd D A s.heap [(o, moE g hs a b c_), (a, arE ty 253 (upd n 4 (v_X7_refers_9 n)))] H locs := X
            have e_1_0 : (f_X7_refers_a n) = (upd n 4 (v_X7_refers_9 n)) := by first | (rw [f_X7_refers_a]; done) | (rw [f_X7_refers_a]; rfl) | (simp only [f_X7_refers_a]; done)
            exact hret _ _ _ _ _ dX7_refers_76 X (by rw [e_1_0])
          refine lv_icmp_lt (tgt := 67) hx hb dX7_refers_53 (by decide) (fun c0_0 => ?_) (fun c0_0 => ?_)
          · refine lv_iload_n hx hb dX7_refers_67 rfl (lv_at hl 1 rfl) ?_
            refine lv_iload_n hx hb dX7_refers_68 rfl (lv_at hl 0 rfl) ?_
            refine lv_bipush (v := 120) hx hb dX7_refers_69 (by decide) ?_
            refine lv_isub hx hb dX7_refers_71 ?_
            refine s_cS0i C hK hA X (c_X7_greater l D ty (v_X7_refers_7 n) ((n 4) - 120)) [] pk_n rfl sl_X7_greater wm_X7_70 ⟨Nat.le_of_ble_eq_true rfl, Nat.le_of_ble_eq_true rfl⟩ ⟨Nat.zero_le _, Nat.zero_le _⟩ hl.1 rfl (Nat.le_of_ble_eq_true rfl) dX7_refers_72 (fun H locs X => ?_)
            exact J75_10 (f_X7_greater (v_X7_refers_7 n) ((n 4) - 120)) _ _ _ (by first | (rw [v_X7_refers_9, if_pos c0_0]; done) | (rw [v_X7_refers_9, if_pos c0_0]; rfl) | (simp only [v_X7_refers_9, if_pos c0_0]; done)) (lv_sub hl [0, 1, 2] rfl) X
          · refine lv_iload_n hx hb dX7_refers_56 rfl (lv_at hl 1 rfl) ?_
            refine lv_iload_n hx hb dX7_refers_57 rfl (lv_at hl 0 rfl) ?_
            refine lv_bipush (v := 60) hx hb dX7_refers_58 (by decide) ?_
            refine lv_iadd hx hb dX7_refers_60 ?_
            refine s_cS0i C hK hA X (c_X7_lesser l D ty (v_X7_refers_7 n) ((n 4) + 60)) [] pk_n rfl sl_X7_lesser wm_X7_73 ⟨Nat.le_of_ble_eq_true rfl, Nat.le_of_ble_eq_true rfl⟩ ⟨Nat.zero_le _, Nat.zero_le _⟩ hl.1 rfl (Nat.le_of_ble_eq_true rfl) dX7_refers_61 (fun H locs X => ?_)
            refine lv_goto (tgt := 75) hx hb dX7_refers_64 (by decide) ?_
            exact J75_10 (f_X7_lesser (v_X7_refers_7 n) ((n 4) + 60)) _ _ _ (by first | (rw [v_X7_refers_9, if_neg c0_0]; done) | (rw [v_X7_refers_9, if_neg c0_0]; rfl) | (simp only [v_X7_refers_9, if_neg c0_0]; done)) (lv_sub hl [0, 1, 2] rfl) X
        refine lv_if_ne (tgt := 31) hx hb dX7_refers_16 (by decide) (fun c0_0 => ?_) (fun c0_0 => ?_)
        · refine lv_iload_n hx hb dX7_refers_31 rfl (lv_at hl 1 rfl) ?_
          exact J32_8 (v_X7_refers_5 n) _ _ _ (by first | (rw [v_X7_refers_7, if_neg c0_0]; done) | (rw [v_X7_refers_7, if_neg c0_0]; rfl) | (simp only [v_X7_refers_7, if_neg c0_0]; done)) (lv_sub hl [0, 1, 2] rfl) X
        · refine lv_iload_n hx hb dX7_refers_19 rfl (lv_at hl 1 rfl) ?_
          refine lv_aload_n hx hb dX7_refers_20 rfl (lv_at hl 2 rfl) ?_
          refine lv_iload_n hx hb dX7_refers_21 rfl (lv_at hl 0 rfl) ?_
          refine s_cV0i C hK hA X (c_X7_measured l D ty o a b c_ g hs n 3 hM (by decide)) [0, 1] (pk_c rfl (pk_c rfl pk_n)) rfl ml_X7_measured wm_X7_63 (q0 := 0) rfl rfl rfl ⟨Nat.le_of_ble_eq_true rfl, Nat.le_of_ble_eq_true rfl⟩ ⟨Nat.zero_le _, Nat.zero_le _⟩ hl.1 rfl (Nat.le_of_ble_eq_true rfl) dX7_refers_22 (fun H locs X => ?_)
          refine s_cS0i C hK hA X (c_X7_greater l D ty (v_X7_refers_5 n) (f_X7_measured n 3)) [] pk_n rfl sl_X7_greater wm_X7_70 ⟨Nat.le_of_ble_eq_true rfl, Nat.le_of_ble_eq_true rfl⟩ ⟨Nat.zero_le _, Nat.zero_le _⟩ hl.1 rfl (Nat.le_of_ble_eq_true rfl) dX7_refers_25 (fun H locs X => ?_)
          refine lv_goto (tgt := 32) hx hb dX7_refers_28 (by decide) ?_
          exact J32_8 (f_X7_greater (v_X7_refers_5 n) (f_X7_measured n 3)) _ _ _ (by first | (rw [v_X7_refers_7, if_pos c0_0]; done) | (rw [v_X7_refers_7, if_pos c0_0]; rfl) | (simp only [v_X7_refers_7, if_pos c0_0]; done)) (lv_sub hl [0, 1, 2] rfl) X
      refine lv_if_ne (tgt := 31) hx hb dX7_refers_16 (by decide) (fun c0_0 => ?_) (fun c0_0 => ?_)
      · refine lv_iload_n hx hb dX7_refers_31 rfl (lv_at hl 1 rfl) ?_
        exact J32_6 (v_X7_refers_3 n) _ _ _ (by first | (rw [v_X7_refers_5, if_neg c0_0]; done) | (rw [v_X7_refers_5, if_neg c0_0]; rfl) | (simp only [v_X7_refers_5, if_neg c0_0]; done)) (lv_sub hl [0, 1, 2] rfl) X
      · refine lv_iload_n hx hb dX7_refers_19 rfl (lv_at hl 1 rfl) ?_
        refine lv_aload_n hx hb dX7_refers_20 rfl (lv_at hl 2 rfl) ?_
        refine lv_iload_n hx hb dX7_refers_21 rfl (lv_at hl 0 rfl) ?_
        refine s_cV0i C hK hA X (c_X7_measured l D ty o a b c_ g hs n 2 hM (by decide)) [0, 1] (pk_c rfl (pk_c rfl pk_n)) rfl ml_X7_measured wm_X7_63 (q0 := 0) rfl rfl rfl ⟨Nat.le_of_ble_eq_true rfl, Nat.le_of_ble_eq_true rfl⟩ ⟨Nat.zero_le _, Nat.zero_le _⟩ hl.1 rfl (Nat.le_of_ble_eq_true rfl) dX7_refers_22 (fun H locs X => ?_)
        refine s_cS0i C hK hA X (c_X7_greater l D ty (v_X7_refers_3 n) (f_X7_measured n 2)) [] pk_n rfl sl_X7_greater wm_X7_70 ⟨Nat.le_of_ble_eq_true rfl, Nat.le_of_ble_eq_true rfl⟩ ⟨Nat.zero_le _, Nat.zero_le _⟩ hl.1 rfl (Nat.le_of_ble_eq_true rfl) dX7_refers_25 (fun H locs X => ?_)
        refine lv_goto (tgt := 32) hx hb dX7_refers_28 (by decide) ?_
        exact J32_6 (f_X7_greater (v_X7_refers_3 n) (f_X7_measured n 2)) _ _ _ (by first | (rw [v_X7_refers_5, if_pos c0_0]; done) | (rw [v_X7_refers_5, if_pos c0_0]; rfl) | (simp only [v_X7_refers_5, if_pos c0_0]; done)) (lv_sub hl [0, 1, 2] rfl) X
    refine lv_if_ne (tgt := 31) hx hb dX7_refers_16 (by decide) (fun c0_0 => ?_) (fun c0_0 => ?_)
    · refine lv_iload_n hx hb dX7_refers_31 rfl (lv_at hl 1 rfl) ?_
      exact J32_4 (v_X7_refers_1 n) _ _ _ (by first | (rw [v_X7_refers_3, if_neg c0_0]; done) | (rw [v_X7_refers_3, if_neg c0_0]; rfl) | (simp only [v_X7_refers_3, if_neg c0_0]; done)) (lv_sub hl [0, 1, 2] rfl) X
    · refine lv_iload_n hx hb dX7_refers_19 rfl (lv_at hl 1 rfl) ?_
      refine lv_aload_n hx hb dX7_refers_20 rfl (lv_at hl 2 rfl) ?_
      refine lv_iload_n hx hb dX7_refers_21 rfl (lv_at hl 0 rfl) ?_
      refine s_cV0i C hK hA X (c_X7_measured l D ty o a b c_ g hs n 1 hM (by decide)) [0, 1] (pk_c rfl (pk_c rfl pk_n)) rfl ml_X7_measured wm_X7_63 (q0 := 0) rfl rfl rfl ⟨Nat.le_of_ble_eq_true rfl, Nat.le_of_ble_eq_true rfl⟩ ⟨Nat.zero_le _, Nat.zero_le _⟩ hl.1 rfl (Nat.le_of_ble_eq_true rfl) dX7_refers_22 (fun H locs X => ?_)
      refine s_cS0i C hK hA X (c_X7_greater l D ty (v_X7_refers_1 n) (f_X7_measured n 1)) [] pk_n rfl sl_X7_greater wm_X7_70 ⟨Nat.le_of_ble_eq_true rfl, Nat.le_of_ble_eq_true rfl⟩ ⟨Nat.zero_le _, Nat.zero_le _⟩ hl.1 rfl (Nat.le_of_ble_eq_true rfl) dX7_refers_25 (fun H locs X => ?_)
      refine lv_goto (tgt := 32) hx hb dX7_refers_28 (by decide) ?_
      exact J32_4 (f_X7_greater (v_X7_refers_1 n) (f_X7_measured n 1)) _ _ _ (by first | (rw [v_X7_refers_3, if_pos c0_0]; done) | (rw [v_X7_refers_3, if_pos c0_0]; rfl) | (simp only [v_X7_refers_3, if_pos c0_0]; done)) (lv_sub hl [0, 1, 2] rfl) X
  refine lv_if_ne (tgt := 31) hx hb dX7_refers_16 (by decide) (fun c0_0 => ?_) (fun c0_0 => ?_)
  · refine lv_iload_n hx hb dX7_refers_31 rfl (lv_at hl 1 rfl) ?_
    exact J32_2 0 _ _ _ (by first | (rw [v_X7_refers_1, if_neg c0_0]; done) | (rw [v_X7_refers_1, if_neg c0_0]; rfl) | (simp only [v_X7_refers_1, if_neg c0_0]; done)) (lv_sub hl [0, 1, 2] rfl) X
  · refine lv_iload_n hx hb dX7_refers_19 rfl (lv_at hl 1 rfl) ?_
    refine lv_aload_n hx hb dX7_refers_20 rfl (lv_at hl 2 rfl) ?_
    refine lv_iload_n hx hb dX7_refers_21 rfl (lv_at hl 0 rfl) ?_
    refine s_cV0i C hK hA X (c_X7_measured l D ty o a b c_ g hs n 0 hM (by decide)) [0, 1] (pk_c rfl (pk_c rfl pk_n)) rfl ml_X7_measured wm_X7_63 (q0 := 0) rfl rfl rfl ⟨Nat.le_of_ble_eq_true rfl, Nat.le_of_ble_eq_true rfl⟩ ⟨Nat.zero_le _, Nat.zero_le _⟩ hl.1 rfl (Nat.le_of_ble_eq_true rfl) dX7_refers_22 (fun H locs X => ?_)
    refine s_cS0i C hK hA X (c_X7_greater l D ty 0 (f_X7_measured n 0)) [] pk_n rfl sl_X7_greater wm_X7_70 ⟨Nat.le_of_ble_eq_true rfl, Nat.le_of_ble_eq_true rfl⟩ ⟨Nat.zero_le _, Nat.zero_le _⟩ hl.1 rfl (Nat.le_of_ble_eq_true rfl) dX7_refers_25 (fun H locs X => ?_)
    refine lv_goto (tgt := 32) hx hb dX7_refers_28 (by decide) ?_
    exact J32_2 (f_X7_greater 0 (f_X7_measured n 0)) _ _ _ (by first | (rw [v_X7_refers_1, if_pos c0_0]; done) | (rw [v_X7_refers_1, if_pos c0_0]; rfl) | (simp only [v_X7_refers_1, if_pos c0_0]; done)) (lv_sub hl [0, 1, 2] rfl) X
def v_X7_suspects_1 (n : F1) (j : Nat) : Int32 := (if (f_X7_measured n j) = 0 then (if (n 4) < 3000 then 0 else ((n (10 + 16 * j + 8)) + 1)) else 0)
def v_X7_suspects_3 (n : F1) (j : Nat) : F1 := (f_X7_logs_a (f_X7_sets_a (f_X7_sets_a n (v_X7_suspects_1 n j) (10 + 16 * j + 8)) 1 (10 + 16 * j + 7)) 1 (nI j))
theorem okm_X7_suspects_4 (n : F1) (j : Nat) (hM : MOK n) (hj : j < 4) : MOK (v_X7_suspects_3 n j) := by
  exact (ok_X7_logs_a (f_X7_sets_a (f_X7_sets_a n (v_X7_suspects_1 n j) (10 + 16 * j + 8)) 1 (10 + 16 * j + 7)) 1 (nI j) (MOK_w (j := j) (k := 7) (by omega) (by decide) (MOK_w (j := j) (k := 8) (by omega) (by decide) hM)))
def f_X7_suspects_a (n : F1) (j : Nat) : F1 := (if (n (10 + 16 * j + 7)) = 1 then n else (if ((f_X7_sets_a n (v_X7_suspects_1 n j) (10 + 16 * j + 8)) (10 + 16 * j + 8)) = 25 then (v_X7_suspects_3 n j) else (f_X7_sets_a n (v_X7_suspects_1 n j) (10 + 16 * j + 8))))
theorem ok_X7_suspects_a (n : F1) (j : Nat) (hM : MOK n) (hj : j < 4) : MOK (f_X7_suspects_a n j) := by
  by_cases k0 : (n (10 + 16 * j + 7)) = 1
  · (try simp only [f_X7_suspects_a, if_pos k0]); exact hM
  · by_cases k1 : ((f_X7_sets_a n (v_X7_suspects_1 n j) (10 + 16 * j + 8)) (10 + 16 * j + 8)) = 25
    · (try simp only [f_X7_suspects_a, if_neg k0, if_pos k1]); exact (okm_X7_suspects_4 n j hM hj)
    · (try simp only [f_X7_suspects_a, if_neg k0, if_neg k1]); exact (MOK_w (j := j) (k := 8) (by omega) (by decide) hM)
set_option maxHeartbeats 4000000 in
set_option maxRecDepth 100000 in
theorem c_X7_suspects (l : Launch) (D : va_G) (ty : Nat → ClassId) (o : Nat) (a : Nat) (b : Nat) (c_ : Nat) (g : F1) (hs : Int64) (n : F1) (j : Nat) (hM : MOK n) (hj : j < 4) : MC l D ty yX7_suspects cX7_suspects 2 none 3 [.ref o, .int (nI j)] [(o, moE g hs a b c_), (a, arE ty 253 n)] none [(o, moE g hs a b c_), (a, arE ty 253 (f_X7_suspects_a n j))] := by
  refine mc_v (by decide +kernel) (Nat.le_of_ble_eq_true rfl) ?_
  intro p e s m args below meth c A Q ls C hK hA X hret hl
  have hx := C.1
  have hb := C.2.1
  have hl : lv_has ls 2 [(0, .ref o), (1, .int (nI j))] := hl
  have X : Wd D A s.heap [(o, moE g hs a b c_), (a, arE ty 253 n)] s.heap [] := X
  refine lv_aload_n hx hb dX7_suspects_0 rfl (lv_at hl 0 rfl) ?_
  refine lv_iload_n hx hb dX7_suspects_1 rfl (lv_at hl 1 rfl) ?_
  refine lv_bipush (v := 7) hx hb dX7_suspects_2 (by decide) ?_
  refine s_cV0i C hK hA X (c_X7_get l D ty o a b c_ g hs n (nI j) 7 (10 + 16 * j + 7) (atN j 7) (by omega)) [0, 1] (pk_c rfl (pk_c rfl pk_n)) rfl ml_X7_get wm_X7_45 (q0 := 0) rfl rfl rfl ⟨Nat.le_of_ble_eq_true rfl, Nat.le_of_ble_eq_true rfl⟩ ⟨Nat.zero_le _, Nat.zero_le _⟩ hl.1 rfl (Nat.le_of_ble_eq_true rfl) dX7_suspects_4 (fun H locs X => ?_)
  refine lv_iconst (v := 1) hx hb dX7_suspects_7 (by decide) ?_
  refine lv_icmp_ne (tgt := 12) hx hb dX7_suspects_8 (by decide) (fun c0_0 => ?_) (fun c0_0 => ?_)
  · refine lv_aload_n hx hb dX7_suspects_12 rfl (lv_at hl 0 rfl) ?_
    refine lv_iload_n hx hb dX7_suspects_13 rfl (lv_at hl 1 rfl) ?_
    refine lv_bipush (v := 8) hx hb dX7_suspects_14 (by decide) ?_
    refine lv_aload_n hx hb dX7_suspects_16 rfl (lv_at hl 0 rfl) ?_
    refine lv_iload_n hx hb dX7_suspects_17 rfl (lv_at hl 1 rfl) ?_
    refine s_cV0i C hK hA X (c_X7_measured l D ty o a b c_ g hs n j hM (by assumption)) [0, 1] (pk_c rfl (pk_c rfl pk_n)) rfl ml_X7_measured wm_X7_63 (q0 := 0) rfl rfl rfl ⟨Nat.le_of_ble_eq_true rfl, Nat.le_of_ble_eq_true rfl⟩ ⟨Nat.zero_le _, Nat.zero_le _⟩ hl.1 rfl (Nat.le_of_ble_eq_true rfl) dX7_suspects_18 (fun H locs X => ?_)
    have J49_2 : ∀ (x1 : Int32) (ls : Array Slot) (H : Heap) (locs : List Loc), x1 = (v_X7_suspects_1 n j) → lv_has ls 2 [(0, .ref o), (1, .int (nI j))] → Wd D A s.heap [(o, moE g hs a b c_), (a, arE ty 253 n)] H locs → W p l e (rmD 3) s m args below meth c H locs 0 0 Q (F0 m 49 ls [.int x1, .int 8, .int (nI j), .ref o]) := by
      intro x1 ls H locs ex1 hl X
      subst ex1
      refine s_cVv (ws' := [(o, moE g hs a b c_), (a, arE ty 253 (f_X7_sets_a n (v_X7_suspects_1 n j) (10 + 16 * j + 8)))]) C hK hA X (c_X7_sets l D ty o a b c_ g hs n (nI j) 8 (v_X7_suspects_1 n j) (10 + 16 * j + 8) (atN j 8) (by omega)) [0, 1] (pk_c rfl (pk_c rfl pk_n)) rfl (pk_c rfl (pk_c rfl pk_n)) (em_t (em_t em_n)) rfl ml_X7_sets wm_X7_59 (q0 := 0) rfl rfl rfl ⟨Nat.le_of_ble_eq_true rfl, Nat.le_of_ble_eq_true rfl⟩ ⟨Nat.zero_le _, Nat.zero_le _⟩ hl.1 rfl (Nat.le_of_ble_eq_true rfl) dX7_suspects_49 (fun H locs X => ?_)
      refine lv_aload_n hx hb dX7_suspects_52 rfl (lv_at hl 0 rfl) ?_
      refine lv_iload_n hx hb dX7_suspects_53 rfl (lv_at hl 1 rfl) ?_
      refine lv_bipush (v := 8) hx hb dX7_suspects_54 (by decide) ?_
      refine s_cV0i C hK hA X (c_X7_get l D ty o a b c_ g hs (f_X7_sets_a n (v_X7_suspects_1 n j) (10 + 16 * j + 8)) (nI j) 8 (10 + 16 * j + 8) (atN j 8) (by omega)) [0, 1] (pk_c rfl (pk_c rfl pk_n)) rfl ml_X7_get wm_X7_45 (q0 := 0) rfl rfl rfl ⟨Nat.le_of_ble_eq_true rfl, Nat.le_of_ble_eq_true rfl⟩ ⟨Nat.zero_le _, Nat.zero_le _⟩ hl.1 rfl (Nat.le_of_ble_eq_true rfl) dX7_suspects_56 (fun H locs X => ?_)
      refine lv_bipush (v := 25) hx hb dX7_suspects_59 (by decide) ?_
      refine lv_icmp_ne (tgt := 78) hx hb dX7_suspects_61 (by decide) (fun c1_1 => ?_) (fun c1_1 => ?_)
      · have e_1_0 : (f_X7_suspects_a n j) = (f_X7_sets_a n (v_X7_suspects_1 n j) (10 + 16 * j + 8)) := by first | (rw [f_X7_suspects_a, if_neg c0_0, if_neg c1_1]; done) | (rw [f_X7_suspects_a, if_neg c0_0, if_neg c1_1]; rfl) | (simp only [f_X7_suspects_a, if_neg c0_0, if_neg c1_1]; done)
        exact hret _ _ _ _ _ dX7_suspects_78 X (by rw [e_1_0])
      · refine lv_aload_n hx hb dX7_suspects_64 rfl (lv_at hl 0 rfl) ?_
        refine lv_iload_n hx hb dX7_suspects_65 rfl (lv_at hl 1 rfl) ?_
        refine lv_bipush (v := 7) hx hb dX7_suspects_66 (by decide) ?_
        refine lv_iconst (v := 1) hx hb dX7_suspects_68 (by decide) ?_
        refine s_cVv (ws' := [(o, moE g hs a b c_), (a, arE ty 253 (f_X7_sets_a (f_X7_sets_a n (v_X7_suspects_1 n j) (10 + 16 * j + 8)) 1 (10 + 16 * j + 7)))]) C hK hA X (c_X7_sets l D ty o a b c_ g hs (f_X7_sets_a n (v_X7_suspects_1 n j) (10 + 16 * j + 8)) (nI j) 7 1 (10 + 16 * j + 7) (atN j 7) (by omega)) [0, 1] (pk_c rfl (pk_c rfl pk_n)) rfl (pk_c rfl (pk_c rfl pk_n)) (em_t (em_t em_n)) rfl ml_X7_sets wm_X7_59 (q0 := 0) rfl rfl rfl ⟨Nat.le_of_ble_eq_true rfl, Nat.le_of_ble_eq_true rfl⟩ ⟨Nat.zero_le _, Nat.zero_le _⟩ hl.1 rfl (Nat.le_of_ble_eq_true rfl) dX7_suspects_69 (fun H locs X => ?_)
        refine lv_aload_n hx hb dX7_suspects_72 rfl (lv_at hl 0 rfl) ?_
        refine lv_iconst (v := 1) hx hb dX7_suspects_73 (by decide) ?_
        refine lv_iload_n hx hb dX7_suspects_74 rfl (lv_at hl 1 rfl) ?_
        refine s_cVv (ws' := [(o, moE g hs a b c_), (a, arE ty 253 (v_X7_suspects_3 n j))]) C hK hA X (c_X7_logs l D ty o a b c_ g hs (f_X7_sets_a (f_X7_sets_a n (v_X7_suspects_1 n j) (10 + 16 * j + 8)) 1 (10 + 16 * j + 7)) 1 (nI j) (MOK_w (j := j) (k := 7) (by omega) (by decide) (MOK_w (j := j) (k := 8) (by omega) (by decide) hM))) [0, 1] (pk_c rfl (pk_c rfl pk_n)) rfl (pk_c rfl (pk_c rfl pk_n)) (em_t (em_t em_n)) rfl ml_X7_logs wm_X7_76 (q0 := 0) rfl rfl rfl ⟨Nat.le_of_ble_eq_true rfl, Nat.le_of_ble_eq_true rfl⟩ ⟨Nat.zero_le _, Nat.zero_le _⟩ hl.1 rfl (Nat.le_of_ble_eq_true rfl) dX7_suspects_75 (fun H locs X => ?_)
        have e_1_0 : (f_X7_suspects_a n j) = (v_X7_suspects_3 n j) := by first | (rw [f_X7_suspects_a, if_neg c0_0, if_pos c1_1]; done) | (rw [f_X7_suspects_a, if_neg c0_0, if_pos c1_1]; rfl) | (simp only [f_X7_suspects_a, if_neg c0_0, if_pos c1_1]; done)
        exact hret _ _ _ _ _ dX7_suspects_78 X (by rw [e_1_0])
    refine lv_if_ne (tgt := 48) hx hb dX7_suspects_21 (by decide) (fun c1_1 => ?_) (fun c1_1 => ?_)
    · refine lv_iconst (v := 0) hx hb dX7_suspects_48 (by decide) ?_
      exact J49_2 0 _ _ _ (by first | (rw [v_X7_suspects_1, if_neg c1_1]; done) | (rw [v_X7_suspects_1, if_neg c1_1]; rfl) | (simp only [v_X7_suspects_1, if_neg c1_1]; done)) (lv_sub hl [0, 1] rfl) X
    · refine lv_aload_n hx hb dX7_suspects_24 rfl (lv_at hl 0 rfl) ?_
      refine get_mo_0 C hK X 0 rfl fl_X7_7 dX7_suspects_25 ?_
      refine lv_iconst (v := 4) hx hb dX7_suspects_28 (by decide) ?_
      refine s_ialN C hK X 1 4 rfl rfl (by decide) (by decide) dX7_suspects_29 ?_
      refine lv_sipush (v := 3000) hx hb dX7_suspects_30 (by decide) ?_
      refine lv_icmp_lt (tgt := 48) hx hb dX7_suspects_33 (by decide) (fun c2_2 => ?_) (fun c2_2 => ?_)
      · refine lv_iconst (v := 0) hx hb dX7_suspects_48 (by decide) ?_
        exact J49_2 0 _ _ _ (by first | (rw [v_X7_suspects_1, if_pos c1_1, if_pos c2_2]; done) | (rw [v_X7_suspects_1, if_pos c1_1, if_pos c2_2]; rfl) | (simp only [v_X7_suspects_1, if_pos c1_1, if_pos c2_2]; done)) (lv_sub hl [0, 1] rfl) X
      · refine lv_aload_n hx hb dX7_suspects_36 rfl (lv_at hl 0 rfl) ?_
        refine lv_iload_n hx hb dX7_suspects_37 rfl (lv_at hl 1 rfl) ?_
        refine lv_bipush (v := 8) hx hb dX7_suspects_38 (by decide) ?_
        refine s_cV0i C hK hA X (c_X7_get l D ty o a b c_ g hs n (nI j) 8 (10 + 16 * j + 8) (atN j 8) (by omega)) [0, 1] (pk_c rfl (pk_c rfl pk_n)) rfl ml_X7_get wm_X7_45 (q0 := 0) rfl rfl rfl ⟨Nat.le_of_ble_eq_true rfl, Nat.le_of_ble_eq_true rfl⟩ ⟨Nat.zero_le _, Nat.zero_le _⟩ hl.1 rfl (Nat.le_of_ble_eq_true rfl) dX7_suspects_40 (fun H locs X => ?_)
        refine lv_iconst (v := 1) hx hb dX7_suspects_43 (by decide) ?_
        refine lv_iadd hx hb dX7_suspects_44 ?_
        refine lv_goto (tgt := 49) hx hb dX7_suspects_45 (by decide) ?_
        exact J49_2 ((n (10 + 16 * j + 8)) + 1) _ _ _ (by first | (rw [v_X7_suspects_1, if_pos c1_1, if_neg c2_2]; done) | (rw [v_X7_suspects_1, if_pos c1_1, if_neg c2_2]; rfl) | (simp only [v_X7_suspects_1, if_pos c1_1, if_neg c2_2]; done)) (lv_sub hl [0, 1] rfl) X
  · have e_1_0 : (f_X7_suspects_a n j) = n := by first | (rw [f_X7_suspects_a, if_pos c0_0]; done) | (rw [f_X7_suspects_a, if_pos c0_0]; rfl) | (simp only [f_X7_suspects_a, if_pos c0_0]; done)
    exact hret _ _ _ _ _ dX7_suspects_11 X (by rw [e_1_0])
def v_X7_becomes_1 (n : F1) (j : Nat) (ph : Int32) : F1 := (f_X7_sets_a (f_X7_sets_a (f_X7_sets_a n ph (10 + 16 * j + 2)) 0 (10 + 16 * j + 3)) (((f_X7_sets_a (f_X7_sets_a n ph (10 + 16 * j + 2)) 0 (10 + 16 * j + 3)) (10 + 16 * j + 5)) + 1) (10 + 16 * j + 5))
theorem okm_X7_becomes_2 (n : F1) (j : Nat) (ph : Int32) (hM : MOK n) (hj : j < 4) : MOK (v_X7_becomes_1 n j ph) := by
  exact (MOK_w (j := j) (k := 5) (by omega) (by decide) (MOK_w (j := j) (k := 3) (by omega) (by decide) (MOK_w (j := j) (k := 2) (by omega) (by decide) hM)))
def v_X7_becomes_3 (ph : Int32) : Int32 := (if ph = 2 then 1 else 0)
def v_X7_becomes_5 (n : F1) (j : Nat) (ph : Int32) : F1 := (f_X7_sets_a (v_X7_becomes_1 n j ph) (((v_X7_becomes_1 n j ph) (10 + 16 * j + 4)) + (v_X7_becomes_3 ph)) (10 + 16 * j + 4))
theorem okm_X7_becomes_6 (n : F1) (j : Nat) (ph : Int32) (hM : MOK n) (hj : j < 4) : MOK (v_X7_becomes_5 n j ph) := by
  exact (MOK_w (j := j) (k := 4) (by omega) (by decide) (okm_X7_becomes_2 n j ph hM hj))
def f_X7_becomes_a (n : F1) (j : Nat) (ph : Int32) : F1 := (if ph = (n (10 + 16 * j + 2)) then (f_X7_sets_a n ((n (10 + 16 * j + 3)) + 1) (10 + 16 * j + 3)) else (f_X7_logs_a (v_X7_becomes_5 n j ph) 0 ((10 * (nI j)) + ph)))
theorem ok_X7_becomes_a (n : F1) (j : Nat) (ph : Int32) (hM : MOK n) (hj : j < 4) : MOK (f_X7_becomes_a n j ph) := by
  by_cases k0 : ph = (n (10 + 16 * j + 2))
  · (try simp only [f_X7_becomes_a, if_pos k0]); exact (MOK_w (j := j) (k := 3) (by omega) (by decide) hM)
  · (try simp only [f_X7_becomes_a, if_neg k0]); exact (ok_X7_logs_a (v_X7_becomes_5 n j ph) 0 ((10 * (nI j)) + ph) (okm_X7_becomes_6 n j ph hM hj))
set_option maxHeartbeats 4000000 in
set_option maxRecDepth 100000 in
theorem c_X7_becomes (l : Launch) (D : va_G) (ty : Nat → ClassId) (o : Nat) (a : Nat) (b : Nat) (c_ : Nat) (g : F1) (hs : Int64) (n : F1) (j : Nat) (ph : Int32) (hM : MOK n) (hj : j < 4) : MC l D ty yX7_becomes cX7_becomes 3 none 2 [.ref o, .int (nI j), .int ph] [(o, moE g hs a b c_), (a, arE ty 253 n)] none [(o, moE g hs a b c_), (a, arE ty 253 (f_X7_becomes_a n j ph))] := by
  refine mc_v (by decide +kernel) (Nat.le_of_ble_eq_true rfl) ?_
  intro p e s m args below meth c A Q ls C hK hA X hret hl
  have hx := C.1
  have hb := C.2.1
  have hl : lv_has ls 3 [(0, .ref o), (1, .int (nI j)), (2, .int ph)] := hl
  have X : Wd D A s.heap [(o, moE g hs a b c_), (a, arE ty 253 n)] s.heap [] := X
  refine lv_iload_n hx hb dX7_becomes_0 rfl (lv_at hl 2 rfl) ?_
  refine lv_aload_n hx hb dX7_becomes_1 rfl (lv_at hl 0 rfl) ?_
  refine lv_iload_n hx hb dX7_becomes_2 rfl (lv_at hl 1 rfl) ?_
  refine lv_iconst (v := 2) hx hb dX7_becomes_3 (by decide) ?_
  refine s_cV0i C hK hA X (c_X7_get l D ty o a b c_ g hs n (nI j) 2 (10 + 16 * j + 2) (atN j 2) (by omega)) [0, 1] (pk_c rfl (pk_c rfl pk_n)) rfl ml_X7_get wm_X7_45 (q0 := 0) rfl rfl rfl ⟨Nat.le_of_ble_eq_true rfl, Nat.le_of_ble_eq_true rfl⟩ ⟨Nat.zero_le _, Nat.zero_le _⟩ hl.1 rfl (Nat.le_of_ble_eq_true rfl) dX7_becomes_4 (fun H locs X => ?_)
  refine lv_icmp_ne (tgt := 25) hx hb dX7_becomes_7 (by decide) (fun c0_0 => ?_) (fun c0_0 => ?_)
  · refine lv_aload_n hx hb dX7_becomes_25 rfl (lv_at hl 0 rfl) ?_
    refine lv_iload_n hx hb dX7_becomes_26 rfl (lv_at hl 1 rfl) ?_
    refine lv_iconst (v := 2) hx hb dX7_becomes_27 (by decide) ?_
    refine lv_iload_n hx hb dX7_becomes_28 rfl (lv_at hl 2 rfl) ?_
    refine s_cVv (ws' := [(o, moE g hs a b c_), (a, arE ty 253 (f_X7_sets_a n ph (10 + 16 * j + 2)))]) C hK hA X (c_X7_sets l D ty o a b c_ g hs n (nI j) 2 ph (10 + 16 * j + 2) (atN j 2) (by omega)) [0, 1] (pk_c rfl (pk_c rfl pk_n)) rfl (pk_c rfl (pk_c rfl pk_n)) (em_t (em_t em_n)) rfl ml_X7_sets wm_X7_59 (q0 := 0) rfl rfl rfl ⟨Nat.le_of_ble_eq_true rfl, Nat.le_of_ble_eq_true rfl⟩ ⟨Nat.zero_le _, Nat.zero_le _⟩ hl.1 rfl (Nat.le_of_ble_eq_true rfl) dX7_becomes_29 (fun H locs X => ?_)
    refine lv_aload_n hx hb dX7_becomes_32 rfl (lv_at hl 0 rfl) ?_
    refine lv_iload_n hx hb dX7_becomes_33 rfl (lv_at hl 1 rfl) ?_
    refine lv_iconst (v := 3) hx hb dX7_becomes_34 (by decide) ?_
    refine lv_iconst (v := 0) hx hb dX7_becomes_35 (by decide) ?_
    refine s_cVv (ws' := [(o, moE g hs a b c_), (a, arE ty 253 (f_X7_sets_a (f_X7_sets_a n ph (10 + 16 * j + 2)) 0 (10 + 16 * j + 3)))]) C hK hA X (c_X7_sets l D ty o a b c_ g hs (f_X7_sets_a n ph (10 + 16 * j + 2)) (nI j) 3 0 (10 + 16 * j + 3) (atN j 3) (by omega)) [0, 1] (pk_c rfl (pk_c rfl pk_n)) rfl (pk_c rfl (pk_c rfl pk_n)) (em_t (em_t em_n)) rfl ml_X7_sets wm_X7_59 (q0 := 0) rfl rfl rfl ⟨Nat.le_of_ble_eq_true rfl, Nat.le_of_ble_eq_true rfl⟩ ⟨Nat.zero_le _, Nat.zero_le _⟩ hl.1 rfl (Nat.le_of_ble_eq_true rfl) dX7_becomes_36 (fun H locs X => ?_)
    refine lv_aload_n hx hb dX7_becomes_39 rfl (lv_at hl 0 rfl) ?_
    refine lv_iload_n hx hb dX7_becomes_40 rfl (lv_at hl 1 rfl) ?_
    refine lv_iconst (v := 5) hx hb dX7_becomes_41 (by decide) ?_
    refine lv_aload_n hx hb dX7_becomes_42 rfl (lv_at hl 0 rfl) ?_
    refine lv_iload_n hx hb dX7_becomes_43 rfl (lv_at hl 1 rfl) ?_
    refine lv_iconst (v := 5) hx hb dX7_becomes_44 (by decide) ?_
    refine s_cV0i C hK hA X (c_X7_get l D ty o a b c_ g hs (f_X7_sets_a (f_X7_sets_a n ph (10 + 16 * j + 2)) 0 (10 + 16 * j + 3)) (nI j) 5 (10 + 16 * j + 5) (atN j 5) (by omega)) [0, 1] (pk_c rfl (pk_c rfl pk_n)) rfl ml_X7_get wm_X7_45 (q0 := 0) rfl rfl rfl ⟨Nat.le_of_ble_eq_true rfl, Nat.le_of_ble_eq_true rfl⟩ ⟨Nat.zero_le _, Nat.zero_le _⟩ hl.1 rfl (Nat.le_of_ble_eq_true rfl) dX7_becomes_45 (fun H locs X => ?_)
    refine lv_iconst (v := 1) hx hb dX7_becomes_48 (by decide) ?_
    refine lv_iadd hx hb dX7_becomes_49 ?_
    refine s_cVv (ws' := [(o, moE g hs a b c_), (a, arE ty 253 (v_X7_becomes_1 n j ph))]) C hK hA X (c_X7_sets l D ty o a b c_ g hs (f_X7_sets_a (f_X7_sets_a n ph (10 + 16 * j + 2)) 0 (10 + 16 * j + 3)) (nI j) 5 (((f_X7_sets_a (f_X7_sets_a n ph (10 + 16 * j + 2)) 0 (10 + 16 * j + 3)) (10 + 16 * j + 5)) + 1) (10 + 16 * j + 5) (atN j 5) (by omega)) [0, 1] (pk_c rfl (pk_c rfl pk_n)) rfl (pk_c rfl (pk_c rfl pk_n)) (em_t (em_t em_n)) rfl ml_X7_sets wm_X7_59 (q0 := 0) rfl rfl rfl ⟨Nat.le_of_ble_eq_true rfl, Nat.le_of_ble_eq_true rfl⟩ ⟨Nat.zero_le _, Nat.zero_le _⟩ hl.1 rfl (Nat.le_of_ble_eq_true rfl) dX7_becomes_50 (fun H locs X => ?_)
    refine lv_aload_n hx hb dX7_becomes_53 rfl (lv_at hl 0 rfl) ?_
    refine lv_iload_n hx hb dX7_becomes_54 rfl (lv_at hl 1 rfl) ?_
    refine lv_iconst (v := 4) hx hb dX7_becomes_55 (by decide) ?_
    refine lv_aload_n hx hb dX7_becomes_56 rfl (lv_at hl 0 rfl) ?_
    refine lv_iload_n hx hb dX7_becomes_57 rfl (lv_at hl 1 rfl) ?_
    refine lv_iconst (v := 4) hx hb dX7_becomes_58 (by decide) ?_
    refine s_cV0i C hK hA X (c_X7_get l D ty o a b c_ g hs (v_X7_becomes_1 n j ph) (nI j) 4 (10 + 16 * j + 4) (atN j 4) (by omega)) [0, 1] (pk_c rfl (pk_c rfl pk_n)) rfl ml_X7_get wm_X7_45 (q0 := 0) rfl rfl rfl ⟨Nat.le_of_ble_eq_true rfl, Nat.le_of_ble_eq_true rfl⟩ ⟨Nat.zero_le _, Nat.zero_le _⟩ hl.1 rfl (Nat.le_of_ble_eq_true rfl) dX7_becomes_59 (fun H locs X => ?_)
    refine lv_iload_n hx hb dX7_becomes_62 rfl (lv_at hl 2 rfl) ?_
    refine lv_iconst (v := 2) hx hb dX7_becomes_63 (by decide) ?_
    have J72_4 : ∀ (x3 : Int32) (ls : Array Slot) (H : Heap) (locs : List Loc), x3 = (v_X7_becomes_3 ph) → lv_has ls 3 [(0, .ref o), (1, .int (nI j)), (2, .int ph)] → Wd D A s.heap [(o, moE g hs a b c_), (a, arE ty 253 (v_X7_becomes_1 n j ph))] H locs → W p l e (rmD 2) s m args below meth c H locs 0 0 Q (F0 m 72 ls [.int x3, .int ((v_X7_becomes_1 n j ph) (10 + 16 * j + 4)), .int 4, .int (nI j), .ref o]) := by
      intro x3 ls H locs ex3 hl X
      subst ex3
      refine lv_iadd hx hb dX7_becomes_72 ?_
      refine s_cVv (ws' := [(o, moE g hs a b c_), (a, arE ty 253 (v_X7_becomes_5 n j ph))]) C hK hA X (c_X7_sets l D ty o a b c_ g hs (v_X7_becomes_1 n j ph) (nI j) 4 (((v_X7_becomes_1 n j ph) (10 + 16 * j + 4)) + (v_X7_becomes_3 ph)) (10 + 16 * j + 4) (atN j 4) (by omega)) [0, 1] (pk_c rfl (pk_c rfl pk_n)) rfl (pk_c rfl (pk_c rfl pk_n)) (em_t (em_t em_n)) rfl ml_X7_sets wm_X7_59 (q0 := 0) rfl rfl rfl ⟨Nat.le_of_ble_eq_true rfl, Nat.le_of_ble_eq_true rfl⟩ ⟨Nat.zero_le _, Nat.zero_le _⟩ hl.1 rfl (Nat.le_of_ble_eq_true rfl) dX7_becomes_73 (fun H locs X => ?_)
      refine lv_aload_n hx hb dX7_becomes_76 rfl (lv_at hl 0 rfl) ?_
      refine lv_iconst (v := 0) hx hb dX7_becomes_77 (by decide) ?_
      refine lv_bipush (v := 10) hx hb dX7_becomes_78 (by decide) ?_
      refine lv_iload_n hx hb dX7_becomes_80 rfl (lv_at hl 1 rfl) ?_
      refine lv_imul hx hb dX7_becomes_81 ?_
      refine lv_iload_n hx hb dX7_becomes_82 rfl (lv_at hl 2 rfl) ?_
      refine lv_iadd hx hb dX7_becomes_83 ?_
      refine s_cVv (ws' := [(o, moE g hs a b c_), (a, arE ty 253 (f_X7_logs_a (v_X7_becomes_5 n j ph) 0 ((10 * (nI j)) + ph)))]) C hK hA X (c_X7_logs l D ty o a b c_ g hs (v_X7_becomes_5 n j ph) 0 ((10 * (nI j)) + ph) (okm_X7_becomes_6 n j ph hM hj)) [0, 1] (pk_c rfl (pk_c rfl pk_n)) rfl (pk_c rfl (pk_c rfl pk_n)) (em_t (em_t em_n)) rfl ml_X7_logs wm_X7_76 (q0 := 0) rfl rfl rfl ⟨Nat.le_of_ble_eq_true rfl, Nat.le_of_ble_eq_true rfl⟩ ⟨Nat.zero_le _, Nat.zero_le _⟩ hl.1 rfl (Nat.le_of_ble_eq_true rfl) dX7_becomes_84 (fun H locs X => ?_)
      have e_1_0 : (f_X7_becomes_a n j ph) = (f_X7_logs_a (v_X7_becomes_5 n j ph) 0 ((10 * (nI j)) + ph)) := by first | (rw [f_X7_becomes_a, if_neg c0_0]; done) | (rw [f_X7_becomes_a, if_neg c0_0]; rfl) | (simp only [f_X7_becomes_a, if_neg c0_0]; done)
      exact hret _ _ _ _ _ dX7_becomes_87 X (by rw [e_1_0])
    refine lv_icmp_ne (tgt := 71) hx hb dX7_becomes_64 (by decide) (fun c1_1 => ?_) (fun c1_1 => ?_)
    · refine lv_iconst (v := 0) hx hb dX7_becomes_71 (by decide) ?_
      exact J72_4 0 _ _ _ (by first | (rw [v_X7_becomes_3, if_neg c1_1]; done) | (rw [v_X7_becomes_3, if_neg c1_1]; rfl) | (simp only [v_X7_becomes_3, if_neg c1_1]; done)) (lv_sub hl [0, 1, 2] rfl) X
    · refine lv_iconst (v := 1) hx hb dX7_becomes_67 (by decide) ?_
      refine lv_goto (tgt := 72) hx hb dX7_becomes_68 (by decide) ?_
      exact J72_4 1 _ _ _ (by first | (rw [v_X7_becomes_3, if_pos c1_1]; done) | (rw [v_X7_becomes_3, if_pos c1_1]; rfl) | (simp only [v_X7_becomes_3, if_pos c1_1]; done)) (lv_sub hl [0, 1, 2] rfl) X
  · refine lv_aload_n hx hb dX7_becomes_10 rfl (lv_at hl 0 rfl) ?_
    refine lv_iload_n hx hb dX7_becomes_11 rfl (lv_at hl 1 rfl) ?_
    refine lv_iconst (v := 3) hx hb dX7_becomes_12 (by decide) ?_
    refine lv_aload_n hx hb dX7_becomes_13 rfl (lv_at hl 0 rfl) ?_
    refine lv_iload_n hx hb dX7_becomes_14 rfl (lv_at hl 1 rfl) ?_
    refine lv_iconst (v := 3) hx hb dX7_becomes_15 (by decide) ?_
    refine s_cV0i C hK hA X (c_X7_get l D ty o a b c_ g hs n (nI j) 3 (10 + 16 * j + 3) (atN j 3) (by omega)) [0, 1] (pk_c rfl (pk_c rfl pk_n)) rfl ml_X7_get wm_X7_45 (q0 := 0) rfl rfl rfl ⟨Nat.le_of_ble_eq_true rfl, Nat.le_of_ble_eq_true rfl⟩ ⟨Nat.zero_le _, Nat.zero_le _⟩ hl.1 rfl (Nat.le_of_ble_eq_true rfl) dX7_becomes_16 (fun H locs X => ?_)
    refine lv_iconst (v := 1) hx hb dX7_becomes_19 (by decide) ?_
    refine lv_iadd hx hb dX7_becomes_20 ?_
    refine s_cVv (ws' := [(o, moE g hs a b c_), (a, arE ty 253 (f_X7_sets_a n ((n (10 + 16 * j + 3)) + 1) (10 + 16 * j + 3)))]) C hK hA X (c_X7_sets l D ty o a b c_ g hs n (nI j) 3 ((n (10 + 16 * j + 3)) + 1) (10 + 16 * j + 3) (atN j 3) (by omega)) [0, 1] (pk_c rfl (pk_c rfl pk_n)) rfl (pk_c rfl (pk_c rfl pk_n)) (em_t (em_t em_n)) rfl ml_X7_sets wm_X7_59 (q0 := 0) rfl rfl rfl ⟨Nat.le_of_ble_eq_true rfl, Nat.le_of_ble_eq_true rfl⟩ ⟨Nat.zero_le _, Nat.zero_le _⟩ hl.1 rfl (Nat.le_of_ble_eq_true rfl) dX7_becomes_21 (fun H locs X => ?_)
    have e_1_0 : (f_X7_becomes_a n j ph) = (f_X7_sets_a n ((n (10 + 16 * j + 3)) + 1) (10 + 16 * j + 3)) := by first | (rw [f_X7_becomes_a, if_pos c0_0]; done) | (rw [f_X7_becomes_a, if_pos c0_0]; rfl) | (simp only [f_X7_becomes_a, if_pos c0_0]; done)
    exact hret _ _ _ _ _ dX7_becomes_24 X (by rw [e_1_0])
def v_X7_phases_1 (n : F1) : Int32 := (if (f_X7_rank (f_X7_nextOf n 2)) ≤ (f_X7_rank (f_X7_nextOf n 3)) then (f_X7_nextOf n 2) else (f_X7_nextOf n 3))
def v_X7_phases_3 (n : F1) : Int32 := (if (f_X7_isControlled n 2) = 0 then (f_X7_nextOf n 3) else (if (f_X7_isControlled n 3) = 0 then (f_X7_nextOf n 3) else (v_X7_phases_1 n)))
def v_X7_phases_4 (n : F1) : Int32 := (if (f_X7_isControlled n 2) = 0 then (f_X7_nextOf n 2) else (if (f_X7_isControlled n 3) = 0 then (f_X7_nextOf n 2) else (v_X7_phases_1 n)))
def v_X7_phases_6 (n : F1) : F1 := (f_X7_becomes_a (f_X7_becomes_a (f_X7_becomes_a n 0 (f_X7_nextOf n 0)) 1 (f_X7_nextOf n 1)) 2 (v_X7_phases_4 n))
theorem okm_X7_phases_7 (n : F1) (hM : MOK n) : MOK (v_X7_phases_6 n) := by
  exact (ok_X7_becomes_a (f_X7_becomes_a (f_X7_becomes_a n 0 (f_X7_nextOf n 0)) 1 (f_X7_nextOf n 1)) 2 (v_X7_phases_4 n) (ok_X7_becomes_a (f_X7_becomes_a n 0 (f_X7_nextOf n 0)) 1 (f_X7_nextOf n 1) (ok_X7_becomes_a n 0 (f_X7_nextOf n 0) hM (by decide)) (by decide)) (by decide))
def f_X7_phases_a (n : F1) : F1 := (f_X7_becomes_a (v_X7_phases_6 n) 3 (v_X7_phases_3 n))
theorem ok_X7_phases_a (n : F1) (hM : MOK n) : MOK (f_X7_phases_a n) := by
  (try simp only [f_X7_phases_a]); exact (ok_X7_becomes_a (v_X7_phases_6 n) 3 (v_X7_phases_3 n) (okm_X7_phases_7 n hM) (by decide))
set_option maxHeartbeats 4000000 in
set_option maxRecDepth 100000 in
theorem c_X7_phases (l : Launch) (D : va_G) (ty : Nat → ClassId) (o : Nat) (a : Nat) (b : Nat) (c_ : Nat) (g : F1) (hs : Int64) (n : F1) (hM : MOK n) : MC l D ty yX7_phases cX7_phases 5 none 6 [.ref o] [(o, moE g hs a b c_), (a, arE ty 253 n)] none [(o, moE g hs a b c_), (a, arE ty 253 (f_X7_phases_a n))] := by
  refine mc_v (by decide +kernel) (Nat.le_of_ble_eq_true rfl) ?_
  intro p e s m args below meth c A Q ls C hK hA X hret hl
  have hx := C.1
  have hb := C.2.1
  have hl : lv_has ls 5 [(0, .ref o)] := hl
  have X : Wd D A s.heap [(o, moE g hs a b c_), (a, arE ty 253 n)] s.heap [] := X
  refine lv_aload_n hx hb dX7_phases_0 rfl (lv_at hl 0 rfl) ?_
  refine lv_iconst (v := 0) hx hb dX7_phases_1 (by decide) ?_
  refine s_cV0i C hK hA X (c_X7_nextOf l D ty o a b c_ g hs n 0 hM (by decide)) [0, 1] (pk_c rfl (pk_c rfl pk_n)) rfl ml_X7_nextOf wm_X7_99 (q0 := 0) rfl rfl rfl ⟨Nat.le_of_ble_eq_true rfl, Nat.le_of_ble_eq_true rfl⟩ ⟨Nat.zero_le _, Nat.zero_le _⟩ hl.1 rfl (Nat.le_of_ble_eq_true rfl) dX7_phases_2 (fun H locs X => ?_)
  refine lv_istore_n (lv' := [(1, .int (f_X7_nextOf n 0)), (0, .ref o)]) hx hb dX7_phases_5 rfl hl (by decide) rfl (fun ls hl => ?_)
  refine lv_aload_n hx hb dX7_phases_6 rfl (lv_at hl 1 rfl) ?_
  refine lv_iconst (v := 1) hx hb dX7_phases_7 (by decide) ?_
  refine s_cV0i C hK hA X (c_X7_nextOf l D ty o a b c_ g hs n 1 hM (by decide)) [0, 1] (pk_c rfl (pk_c rfl pk_n)) rfl ml_X7_nextOf wm_X7_99 (q0 := 0) rfl rfl rfl ⟨Nat.le_of_ble_eq_true rfl, Nat.le_of_ble_eq_true rfl⟩ ⟨Nat.zero_le _, Nat.zero_le _⟩ hl.1 rfl (Nat.le_of_ble_eq_true rfl) dX7_phases_8 (fun H locs X => ?_)
  refine lv_istore_n (lv' := [(2, .int (f_X7_nextOf n 1)), (1, .int (f_X7_nextOf n 0)), (0, .ref o)]) hx hb dX7_phases_11 rfl hl (by decide) rfl (fun ls hl => ?_)
  refine lv_aload_n hx hb dX7_phases_12 rfl (lv_at hl 2 rfl) ?_
  refine lv_iconst (v := 2) hx hb dX7_phases_13 (by decide) ?_
  refine s_cV0i C hK hA X (c_X7_nextOf l D ty o a b c_ g hs n 2 hM (by decide)) [0, 1] (pk_c rfl (pk_c rfl pk_n)) rfl ml_X7_nextOf wm_X7_99 (q0 := 0) rfl rfl rfl ⟨Nat.le_of_ble_eq_true rfl, Nat.le_of_ble_eq_true rfl⟩ ⟨Nat.zero_le _, Nat.zero_le _⟩ hl.1 rfl (Nat.le_of_ble_eq_true rfl) dX7_phases_14 (fun H locs X => ?_)
  refine lv_istore_n (lv' := [(3, .int (f_X7_nextOf n 2)), (2, .int (f_X7_nextOf n 1)), (1, .int (f_X7_nextOf n 0)), (0, .ref o)]) hx hb dX7_phases_17 rfl hl (by decide) rfl (fun ls hl => ?_)
  refine lv_aload_n hx hb dX7_phases_18 rfl (lv_at hl 3 rfl) ?_
  refine lv_iconst (v := 3) hx hb dX7_phases_19 (by decide) ?_
  refine s_cV0i C hK hA X (c_X7_nextOf l D ty o a b c_ g hs n 3 hM (by decide)) [0, 1] (pk_c rfl (pk_c rfl pk_n)) rfl ml_X7_nextOf wm_X7_99 (q0 := 0) rfl rfl rfl ⟨Nat.le_of_ble_eq_true rfl, Nat.le_of_ble_eq_true rfl⟩ ⟨Nat.zero_le _, Nat.zero_le _⟩ hl.1 rfl (Nat.le_of_ble_eq_true rfl) dX7_phases_20 (fun H locs X => ?_)
  refine lv_istore (lv' := [(4, .int (f_X7_nextOf n 3)), (3, .int (f_X7_nextOf n 2)), (2, .int (f_X7_nextOf n 1)), (1, .int (f_X7_nextOf n 0)), (0, .ref o)]) hx hb dX7_phases_23 hl (by decide) rfl (fun ls hl => ?_)
  refine lv_aload_n hx hb dX7_phases_25 rfl (lv_at hl 4 rfl) ?_
  refine lv_iconst (v := 2) hx hb dX7_phases_26 (by decide) ?_
  refine s_cV0i C hK hA X (c_X7_isControlled l D ty o a b c_ g hs n 2 (by decide)) [0, 1] (pk_c rfl (pk_c rfl pk_n)) rfl ml_X7_isControlled wm_X7_90 (q0 := 0) rfl rfl rfl ⟨Nat.le_of_ble_eq_true rfl, Nat.le_of_ble_eq_true rfl⟩ ⟨Nat.zero_le _, Nat.zero_le _⟩ hl.1 rfl (Nat.le_of_ble_eq_true rfl) dX7_phases_27 (fun H locs X => ?_)
  have J63_5 : ∀ (x3 : Int32) (x4 : Int32) (ls : Array Slot) (H : Heap) (locs : List Loc), x3 = (v_X7_phases_3 n) → x4 = (v_X7_phases_4 n) → lv_has ls 5 [(4, .int x3), (3, .int x4), (2, .int (f_X7_nextOf n 1)), (1, .int (f_X7_nextOf n 0)), (0, .ref o)] → Wd D A s.heap [(o, moE g hs a b c_), (a, arE ty 253 n)] H locs → W p l e (rmD 6) s m args below meth c H locs 0 0 Q (F0 m 63 ls []) := by
    intro x3 x4 ls H locs ex3 ex4 hl X
    subst ex3; subst ex4
    refine lv_aload_n hx hb dX7_phases_63 rfl (lv_at hl 4 rfl) ?_
    refine lv_iconst (v := 0) hx hb dX7_phases_64 (by decide) ?_
    refine lv_iload_n hx hb dX7_phases_65 rfl (lv_at hl 3 rfl) ?_
    refine s_cVv (ws' := [(o, moE g hs a b c_), (a, arE ty 253 (f_X7_becomes_a n 0 (f_X7_nextOf n 0)))]) C hK hA X (c_X7_becomes l D ty o a b c_ g hs n 0 (f_X7_nextOf n 0) hM (by decide)) [0, 1] (pk_c rfl (pk_c rfl pk_n)) rfl (pk_c rfl (pk_c rfl pk_n)) (em_t (em_t em_n)) rfl ml_X7_becomes wm_X7_105 (q0 := 0) rfl rfl rfl ⟨Nat.le_of_ble_eq_true rfl, Nat.le_of_ble_eq_true rfl⟩ ⟨Nat.zero_le _, Nat.zero_le _⟩ hl.1 rfl (Nat.le_of_ble_eq_true rfl) dX7_phases_66 (fun H locs X => ?_)
    refine lv_aload_n hx hb dX7_phases_69 rfl (lv_at hl 4 rfl) ?_
    refine lv_iconst (v := 1) hx hb dX7_phases_70 (by decide) ?_
    refine lv_iload_n hx hb dX7_phases_71 rfl (lv_at hl 2 rfl) ?_
    refine s_cVv (ws' := [(o, moE g hs a b c_), (a, arE ty 253 (f_X7_becomes_a (f_X7_becomes_a n 0 (f_X7_nextOf n 0)) 1 (f_X7_nextOf n 1)))]) C hK hA X (c_X7_becomes l D ty o a b c_ g hs (f_X7_becomes_a n 0 (f_X7_nextOf n 0)) 1 (f_X7_nextOf n 1) (ok_X7_becomes_a n 0 (f_X7_nextOf n 0) hM (by decide)) (by decide)) [0, 1] (pk_c rfl (pk_c rfl pk_n)) rfl (pk_c rfl (pk_c rfl pk_n)) (em_t (em_t em_n)) rfl ml_X7_becomes wm_X7_105 (q0 := 0) rfl rfl rfl ⟨Nat.le_of_ble_eq_true rfl, Nat.le_of_ble_eq_true rfl⟩ ⟨Nat.zero_le _, Nat.zero_le _⟩ hl.1 rfl (Nat.le_of_ble_eq_true rfl) dX7_phases_72 (fun H locs X => ?_)
    refine lv_aload_n hx hb dX7_phases_75 rfl (lv_at hl 4 rfl) ?_
    refine lv_iconst (v := 2) hx hb dX7_phases_76 (by decide) ?_
    refine lv_iload_n hx hb dX7_phases_77 rfl (lv_at hl 1 rfl) ?_
    refine s_cVv (ws' := [(o, moE g hs a b c_), (a, arE ty 253 (v_X7_phases_6 n))]) C hK hA X (c_X7_becomes l D ty o a b c_ g hs (f_X7_becomes_a (f_X7_becomes_a n 0 (f_X7_nextOf n 0)) 1 (f_X7_nextOf n 1)) 2 (v_X7_phases_4 n) (ok_X7_becomes_a (f_X7_becomes_a n 0 (f_X7_nextOf n 0)) 1 (f_X7_nextOf n 1) (ok_X7_becomes_a n 0 (f_X7_nextOf n 0) hM (by decide)) (by decide)) (by decide)) [0, 1] (pk_c rfl (pk_c rfl pk_n)) rfl (pk_c rfl (pk_c rfl pk_n)) (em_t (em_t em_n)) rfl ml_X7_becomes wm_X7_105 (q0 := 0) rfl rfl rfl ⟨Nat.le_of_ble_eq_true rfl, Nat.le_of_ble_eq_true rfl⟩ ⟨Nat.zero_le _, Nat.zero_le _⟩ hl.1 rfl (Nat.le_of_ble_eq_true rfl) dX7_phases_78 (fun H locs X => ?_)
    refine lv_aload_n hx hb dX7_phases_81 rfl (lv_at hl 4 rfl) ?_
    refine lv_iconst (v := 3) hx hb dX7_phases_82 (by decide) ?_
    refine lv_iload hx hb dX7_phases_83 (lv_at hl 0 rfl) ?_
    refine s_cVv (ws' := [(o, moE g hs a b c_), (a, arE ty 253 (f_X7_becomes_a (v_X7_phases_6 n) 3 (v_X7_phases_3 n)))]) C hK hA X (c_X7_becomes l D ty o a b c_ g hs (v_X7_phases_6 n) 3 (v_X7_phases_3 n) (okm_X7_phases_7 n hM) (by decide)) [0, 1] (pk_c rfl (pk_c rfl pk_n)) rfl (pk_c rfl (pk_c rfl pk_n)) (em_t (em_t em_n)) rfl ml_X7_becomes wm_X7_105 (q0 := 0) rfl rfl rfl ⟨Nat.le_of_ble_eq_true rfl, Nat.le_of_ble_eq_true rfl⟩ ⟨Nat.zero_le _, Nat.zero_le _⟩ hl.1 rfl (Nat.le_of_ble_eq_true rfl) dX7_phases_85 (fun H locs X => ?_)
    have e_1_0 : (f_X7_phases_a n) = (f_X7_becomes_a (v_X7_phases_6 n) 3 (v_X7_phases_3 n)) := by first | (rw [f_X7_phases_a]; done) | (rw [f_X7_phases_a]; rfl) | (simp only [f_X7_phases_a]; done)
    exact hret _ _ _ _ _ dX7_phases_88 X (by rw [e_1_0])
  refine lv_if_eq (tgt := 63) hx hb dX7_phases_30 (by decide) (fun c0_0 => ?_) (fun c0_0 => ?_)
  · exact J63_5 (f_X7_nextOf n 3) (f_X7_nextOf n 2) _ _ _ (by first | (rw [v_X7_phases_3, if_pos c0_0]; done) | (rw [v_X7_phases_3, if_pos c0_0]; rfl) | (simp only [v_X7_phases_3, if_pos c0_0]; done)) (by first | (rw [v_X7_phases_4, if_pos c0_0]; done) | (rw [v_X7_phases_4, if_pos c0_0]; rfl) | (simp only [v_X7_phases_4, if_pos c0_0]; done)) (lv_sub hl [0, 1, 2, 3, 4] rfl) X
  · refine lv_aload_n hx hb dX7_phases_33 rfl (lv_at hl 4 rfl) ?_
    refine lv_iconst (v := 3) hx hb dX7_phases_34 (by decide) ?_
    refine s_cV0i C hK hA X (c_X7_isControlled l D ty o a b c_ g hs n 3 (by decide)) [0, 1] (pk_c rfl (pk_c rfl pk_n)) rfl ml_X7_isControlled wm_X7_90 (q0 := 0) rfl rfl rfl ⟨Nat.le_of_ble_eq_true rfl, Nat.le_of_ble_eq_true rfl⟩ ⟨Nat.zero_le _, Nat.zero_le _⟩ hl.1 rfl (Nat.le_of_ble_eq_true rfl) dX7_phases_35 (fun H locs X => ?_)
    refine lv_if_eq (tgt := 63) hx hb dX7_phases_38 (by decide) (fun c1_1 => ?_) (fun c1_1 => ?_)
    · exact J63_5 (f_X7_nextOf n 3) (f_X7_nextOf n 2) _ _ _ (by first | (rw [v_X7_phases_3, if_neg c0_0, if_pos c1_1]; done) | (rw [v_X7_phases_3, if_neg c0_0, if_pos c1_1]; rfl) | (simp only [v_X7_phases_3, if_neg c0_0, if_pos c1_1]; done)) (by first | (rw [v_X7_phases_4, if_neg c0_0, if_pos c1_1]; done) | (rw [v_X7_phases_4, if_neg c0_0, if_pos c1_1]; rfl) | (simp only [v_X7_phases_4, if_neg c0_0, if_pos c1_1]; done)) (lv_sub hl [0, 1, 2, 3, 4] rfl) X
    · refine lv_iload hx hb dX7_phases_41 (lv_at hl 0 rfl) ?_
      refine s_cS0i C hK hA X (c_X7_rank l D ty (f_X7_nextOf n 3)) [] pk_n rfl sl_X7_rank wm_X7_102 ⟨Nat.le_of_ble_eq_true rfl, Nat.le_of_ble_eq_true rfl⟩ ⟨Nat.zero_le _, Nat.zero_le _⟩ hl.1 rfl (Nat.le_of_ble_eq_true rfl) dX7_phases_43 (fun H locs X => ?_)
      refine lv_iload_n hx hb dX7_phases_46 rfl (lv_at hl 1 rfl) ?_
      refine s_cS0i C hK hA X (c_X7_rank l D ty (f_X7_nextOf n 2)) [] pk_n rfl sl_X7_rank wm_X7_102 ⟨Nat.le_of_ble_eq_true rfl, Nat.le_of_ble_eq_true rfl⟩ ⟨Nat.zero_le _, Nat.zero_le _⟩ hl.1 rfl (Nat.le_of_ble_eq_true rfl) dX7_phases_47 (fun H locs X => ?_)
      have J59_2 : ∀ (x1 : Int32) (ls : Array Slot) (H : Heap) (locs : List Loc), x1 = (v_X7_phases_1 n) → lv_has ls 5 [(4, .int (f_X7_nextOf n 3)), (3, .int (f_X7_nextOf n 2)), (2, .int (f_X7_nextOf n 1)), (1, .int (f_X7_nextOf n 0)), (0, .ref o)] → Wd D A s.heap [(o, moE g hs a b c_), (a, arE ty 253 n)] H locs → W p l e (rmD 6) s m args below meth c H locs 0 0 Q (F0 m 59 ls [.int x1]) := by
        intro x1 ls H locs ex1 hl X
        subst ex1
        refine lv_istore_n (lv' := [(3, .int (v_X7_phases_1 n)), (4, .int (f_X7_nextOf n 3)), (2, .int (f_X7_nextOf n 1)), (1, .int (f_X7_nextOf n 0)), (0, .ref o)]) hx hb dX7_phases_59 rfl hl (by decide) rfl (fun ls hl => ?_)
        refine lv_iload_n hx hb dX7_phases_60 rfl (lv_at hl 0 rfl) ?_
        refine lv_istore (lv' := [(4, .int (v_X7_phases_1 n)), (3, .int (v_X7_phases_1 n)), (2, .int (f_X7_nextOf n 1)), (1, .int (f_X7_nextOf n 0)), (0, .ref o)]) hx hb dX7_phases_61 hl (by decide) rfl (fun ls hl => ?_)
        exact J63_5 (v_X7_phases_1 n) (v_X7_phases_1 n) _ _ _ (by first | (rw [v_X7_phases_3, if_neg c0_0, if_neg c1_1]; done) | (rw [v_X7_phases_3, if_neg c0_0, if_neg c1_1]; rfl) | (simp only [v_X7_phases_3, if_neg c0_0, if_neg c1_1]; done)) (by first | (rw [v_X7_phases_4, if_neg c0_0, if_neg c1_1]; done) | (rw [v_X7_phases_4, if_neg c0_0, if_neg c1_1]; rfl) | (simp only [v_X7_phases_4, if_neg c0_0, if_neg c1_1]; done)) (lv_sub hl [0, 1, 2, 3, 4] rfl) X
      refine lv_icmp_ge (tgt := 58) hx hb dX7_phases_50 (by decide) (fun c2_2 => ?_) (fun c2_2 => ?_)
      · refine lv_iload_n hx hb dX7_phases_58 rfl (lv_at hl 1 rfl) ?_
        exact J59_2 (f_X7_nextOf n 2) _ _ _ (by first | (rw [v_X7_phases_1, if_pos c2_2]; done) | (rw [v_X7_phases_1, if_pos c2_2]; rfl) | (simp only [v_X7_phases_1, if_pos c2_2]; done)) (lv_sub hl [0, 1, 2, 3, 4] rfl) X
      · refine lv_iload hx hb dX7_phases_53 (lv_at hl 0 rfl) ?_
        refine lv_goto (tgt := 59) hx hb dX7_phases_55 (by decide) ?_
        exact J59_2 (f_X7_nextOf n 3) _ _ _ (by first | (rw [v_X7_phases_1, if_neg c2_2]; done) | (rw [v_X7_phases_1, if_neg c2_2]; rfl) | (simp only [v_X7_phases_1, if_neg c2_2]; done)) (lv_sub hl [0, 1, 2, 3, 4] rfl) X
def v_X7_dumps_1 (n : F1) (j : Nat) : F1 := (if (n 9) = 0 then (f_X7_logs_a n 2 (nI j)) else n)
theorem okm_X7_dumps_2 (n : F1) (j : Nat) (hM : MOK n) : MOK (v_X7_dumps_1 n j) := by
  by_cases k0 : (n 9) = 0
  · (try simp only [v_X7_dumps_1, if_pos k0]); exact (ok_X7_logs_a n 2 (nI j) hM)
  · (try simp only [v_X7_dumps_1, if_neg k0]); exact hM
def v_X7_dumps_4 (n : F1) (j : Nat) : F1 := (f_X7_sets_a n ((n (10 + 16 * j + 1)) - (f_X7_lesser 50 (n (10 + 16 * j + 1)))) (10 + 16 * j + 1))
theorem okm_X7_dumps_5 (n : F1) (j : Nat) (hM : MOK n) (hj : j < 4) : MOK (v_X7_dumps_4 n j) := by
  exact (MOK_w (j := j) (k := 1) (by omega) (by decide) hM)
def v_X7_dumps_6 (n : F1) (j : Nat) : F1 := (upd (v_X7_dumps_4 n j) 5 (((v_X7_dumps_4 n j) 5) + (f_X7_lesser 50 (n (10 + 16 * j + 1)))))
theorem okm_X7_dumps_7 (n : F1) (j : Nat) (hM : MOK n) (hj : j < 4) : MOK (v_X7_dumps_6 n j) := by
  exact (MOK_i (by decide) (okm_X7_dumps_5 n j hM hj))
def f_X7_dumps_a (n : F1) (j : Nat) : F1 := (if 550 < (n 5) then (upd (v_X7_dumps_1 n j) 9 1) else (upd (v_X7_dumps_6 n j) 9 0))
theorem ok_X7_dumps_a (n : F1) (j : Nat) (hM : MOK n) (hj : j < 4) : MOK (f_X7_dumps_a n j) := by
  by_cases k0 : 550 < (n 5)
  · (try simp only [f_X7_dumps_a, if_pos k0]); exact (MOK_i (by decide) (okm_X7_dumps_2 n j hM))
  · (try simp only [f_X7_dumps_a, if_neg k0]); exact (MOK_i (by decide) (okm_X7_dumps_7 n j hM hj))
set_option maxHeartbeats 4000000 in
set_option maxRecDepth 100000 in
theorem c_X7_dumps (l : Launch) (D : va_G) (ty : Nat → ClassId) (o : Nat) (a : Nat) (b : Nat) (c_ : Nat) (g : F1) (hs : Int64) (n : F1) (j : Nat) (hM : MOK n) (hj : j < 4) : MC l D ty yX7_dumps cX7_dumps 3 none 2 [.ref o, .int (nI j)] [(o, moE g hs a b c_), (a, arE ty 253 n)] none [(o, moE g hs a b c_), (a, arE ty 253 (f_X7_dumps_a n j))] := by
  refine mc_v (by decide +kernel) (Nat.le_of_ble_eq_true rfl) ?_
  intro p e s m args below meth c A Q ls C hK hA X hret hl
  have hx := C.1
  have hb := C.2.1
  have hl : lv_has ls 3 [(0, .ref o), (1, .int (nI j))] := hl
  have X : Wd D A s.heap [(o, moE g hs a b c_), (a, arE ty 253 n)] s.heap [] := X
  refine lv_aload_n hx hb dX7_dumps_0 rfl (lv_at hl 0 rfl) ?_
  refine get_mo_0 C hK X 0 rfl fl_X7_7 dX7_dumps_1 ?_
  refine lv_iconst (v := 5) hx hb dX7_dumps_4 (by decide) ?_
  refine s_ialN C hK X 1 5 rfl rfl (by decide) (by decide) dX7_dumps_5 ?_
  refine lv_sipush (v := 550) hx hb dX7_dumps_6 (by decide) ?_
  refine lv_icmp_gt (tgt := 57) hx hb dX7_dumps_9 (by decide) (fun c0_0 => ?_) (fun c0_0 => ?_)
  · refine lv_aload_n hx hb dX7_dumps_57 rfl (lv_at hl 0 rfl) ?_
    refine get_mo_0 C hK X 0 rfl fl_X7_7 dX7_dumps_58 ?_
    refine lv_bipush (v := 9) hx hb dX7_dumps_61 (by decide) ?_
    refine s_ialN C hK X 1 9 rfl rfl (by decide) (by decide) dX7_dumps_63 ?_
    have J73_3 : ∀ (x1 : F1) (ls : Array Slot) (H : Heap) (locs : List Loc), x1 = (v_X7_dumps_1 n j) → lv_has ls 3 [(0, .ref o), (1, .int (nI j))] → Wd D A s.heap [(o, moE g hs a b c_), (a, arE ty 253 x1)] H locs → W p l e (rmD 2) s m args below meth c H locs 0 0 Q (F0 m 73 ls []) := by
      intro x1 ls H locs ex1 hl X
      subst ex1
      refine lv_aload_n hx hb dX7_dumps_73 rfl (lv_at hl 0 rfl) ?_
      refine get_mo_0 C hK X 0 rfl fl_X7_7 dX7_dumps_74 ?_
      refine lv_bipush (v := 9) hx hb dX7_dumps_77 (by decide) ?_
      refine lv_iconst (v := 1) hx hb dX7_dumps_79 (by decide) ?_
      refine s_iasN C hK X 1 9 rfl rfl (by decide) (by decide) dX7_dumps_80 (fun H locs X => ?_)
      have X : Wd D A s.heap [(o, moE g hs a b c_), (a, arE ty 253 (upd (v_X7_dumps_1 n j) 9 1))] H locs := X
      have e_1_0 : (f_X7_dumps_a n j) = (upd (v_X7_dumps_1 n j) 9 1) := by first | (rw [f_X7_dumps_a, if_pos c0_0]; done) | (rw [f_X7_dumps_a, if_pos c0_0]; rfl) | (simp only [f_X7_dumps_a, if_pos c0_0]; done)
      exact hret _ _ _ _ _ dX7_dumps_81 X (by rw [e_1_0])
    refine lv_if_ne (tgt := 73) hx hb dX7_dumps_64 (by decide) (fun c1_1 => ?_) (fun c1_1 => ?_)
    · exact J73_3 n _ _ _ (by first | (rw [v_X7_dumps_1, if_neg c1_1]; done) | (rw [v_X7_dumps_1, if_neg c1_1]; rfl) | (simp only [v_X7_dumps_1, if_neg c1_1]; done)) (lv_sub hl [0, 1] rfl) X
    · refine lv_aload_n hx hb dX7_dumps_67 rfl (lv_at hl 0 rfl) ?_
      refine lv_iconst (v := 2) hx hb dX7_dumps_68 (by decide) ?_
      refine lv_iload_n hx hb dX7_dumps_69 rfl (lv_at hl 1 rfl) ?_
      refine s_cVv (ws' := [(o, moE g hs a b c_), (a, arE ty 253 (f_X7_logs_a n 2 (nI j)))]) C hK hA X (c_X7_logs l D ty o a b c_ g hs n 2 (nI j) hM) [0, 1] (pk_c rfl (pk_c rfl pk_n)) rfl (pk_c rfl (pk_c rfl pk_n)) (em_t (em_t em_n)) rfl ml_X7_logs wm_X7_76 (q0 := 0) rfl rfl rfl ⟨Nat.le_of_ble_eq_true rfl, Nat.le_of_ble_eq_true rfl⟩ ⟨Nat.zero_le _, Nat.zero_le _⟩ hl.1 rfl (Nat.le_of_ble_eq_true rfl) dX7_dumps_70 (fun H locs X => ?_)
      exact J73_3 (f_X7_logs_a n 2 (nI j)) _ _ _ (by first | (rw [v_X7_dumps_1, if_pos c1_1]; done) | (rw [v_X7_dumps_1, if_pos c1_1]; rfl) | (simp only [v_X7_dumps_1, if_pos c1_1]; done)) (lv_sub hl [0, 1] rfl) X
  · refine lv_bipush (v := 50) hx hb dX7_dumps_12 (by decide) ?_
    refine lv_aload_n hx hb dX7_dumps_14 rfl (lv_at hl 0 rfl) ?_
    refine lv_iload_n hx hb dX7_dumps_15 rfl (lv_at hl 1 rfl) ?_
    refine lv_iconst (v := 1) hx hb dX7_dumps_16 (by decide) ?_
    refine s_cV0i C hK hA X (c_X7_get l D ty o a b c_ g hs n (nI j) 1 (10 + 16 * j + 1) (atN j 1) (by omega)) [0, 1] (pk_c rfl (pk_c rfl pk_n)) rfl ml_X7_get wm_X7_45 (q0 := 0) rfl rfl rfl ⟨Nat.le_of_ble_eq_true rfl, Nat.le_of_ble_eq_true rfl⟩ ⟨Nat.zero_le _, Nat.zero_le _⟩ hl.1 rfl (Nat.le_of_ble_eq_true rfl) dX7_dumps_17 (fun H locs X => ?_)
    refine s_cS0i C hK hA X (c_X7_lesser l D ty 50 (n (10 + 16 * j + 1))) [] pk_n rfl sl_X7_lesser wm_X7_73 ⟨Nat.le_of_ble_eq_true rfl, Nat.le_of_ble_eq_true rfl⟩ ⟨Nat.zero_le _, Nat.zero_le _⟩ hl.1 rfl (Nat.le_of_ble_eq_true rfl) dX7_dumps_20 (fun H locs X => ?_)
    refine lv_istore_n (lv' := [(2, .int (f_X7_lesser 50 (n (10 + 16 * j + 1)))), (0, .ref o), (1, .int (nI j))]) hx hb dX7_dumps_23 rfl hl (by decide) rfl (fun ls hl => ?_)
    refine lv_aload_n hx hb dX7_dumps_24 rfl (lv_at hl 1 rfl) ?_
    refine lv_iload_n hx hb dX7_dumps_25 rfl (lv_at hl 2 rfl) ?_
    refine lv_iconst (v := 1) hx hb dX7_dumps_26 (by decide) ?_
    refine lv_aload_n hx hb dX7_dumps_27 rfl (lv_at hl 1 rfl) ?_
    refine lv_iload_n hx hb dX7_dumps_28 rfl (lv_at hl 2 rfl) ?_
    refine lv_iconst (v := 1) hx hb dX7_dumps_29 (by decide) ?_
    refine s_cV0i C hK hA X (c_X7_get l D ty o a b c_ g hs n (nI j) 1 (10 + 16 * j + 1) (atN j 1) (by omega)) [0, 1] (pk_c rfl (pk_c rfl pk_n)) rfl ml_X7_get wm_X7_45 (q0 := 0) rfl rfl rfl ⟨Nat.le_of_ble_eq_true rfl, Nat.le_of_ble_eq_true rfl⟩ ⟨Nat.zero_le _, Nat.zero_le _⟩ hl.1 rfl (Nat.le_of_ble_eq_true rfl) dX7_dumps_30 (fun H locs X => ?_)
    refine lv_iload_n hx hb dX7_dumps_33 rfl (lv_at hl 0 rfl) ?_
    refine lv_isub hx hb dX7_dumps_34 ?_
    refine s_cVv (ws' := [(o, moE g hs a b c_), (a, arE ty 253 (v_X7_dumps_4 n j))]) C hK hA X (c_X7_sets l D ty o a b c_ g hs n (nI j) 1 ((n (10 + 16 * j + 1)) - (f_X7_lesser 50 (n (10 + 16 * j + 1)))) (10 + 16 * j + 1) (atN j 1) (by omega)) [0, 1] (pk_c rfl (pk_c rfl pk_n)) rfl (pk_c rfl (pk_c rfl pk_n)) (em_t (em_t em_n)) rfl ml_X7_sets wm_X7_59 (q0 := 0) rfl rfl rfl ⟨Nat.le_of_ble_eq_true rfl, Nat.le_of_ble_eq_true rfl⟩ ⟨Nat.zero_le _, Nat.zero_le _⟩ hl.1 rfl (Nat.le_of_ble_eq_true rfl) dX7_dumps_35 (fun H locs X => ?_)
    refine lv_aload_n hx hb dX7_dumps_38 rfl (lv_at hl 1 rfl) ?_
    refine get_mo_0 C hK X 0 rfl fl_X7_7 dX7_dumps_39 ?_
    refine lv_iconst (v := 5) hx hb dX7_dumps_42 (by decide) ?_
    refine lv_dup2_11 hx hb dX7_dumps_43 rfl rfl ?_
    refine s_ialN C hK X 1 5 rfl rfl (by decide) (by decide) dX7_dumps_44 ?_
    refine lv_iload_n hx hb dX7_dumps_45 rfl (lv_at hl 0 rfl) ?_
    refine lv_iadd hx hb dX7_dumps_46 ?_
    refine s_iasN C hK X 1 5 rfl rfl (by decide) (by decide) dX7_dumps_47 (fun H locs X => ?_)
    have X : Wd D A s.heap [(o, moE g hs a b c_), (a, arE ty 253 (v_X7_dumps_6 n j))] H locs := X
    refine lv_aload_n hx hb dX7_dumps_48 rfl (lv_at hl 1 rfl) ?_
    refine get_mo_0 C hK X 0 rfl fl_X7_7 dX7_dumps_49 ?_
    refine lv_bipush (v := 9) hx hb dX7_dumps_52 (by decide) ?_
    refine lv_iconst (v := 0) hx hb dX7_dumps_54 (by decide) ?_
    refine s_iasN C hK X 1 9 rfl rfl (by decide) (by decide) dX7_dumps_55 (fun H locs X => ?_)
    have X : Wd D A s.heap [(o, moE g hs a b c_), (a, arE ty 253 (upd (v_X7_dumps_6 n j) 9 0))] H locs := X
    have e_1_0 : (f_X7_dumps_a n j) = (upd (v_X7_dumps_6 n j) 9 0) := by first | (rw [f_X7_dumps_a, if_neg c0_0]; done) | (rw [f_X7_dumps_a, if_neg c0_0]; rfl) | (simp only [f_X7_dumps_a, if_neg c0_0]; done)
    exact hret _ _ _ _ _ dX7_dumps_56 X (by rw [e_1_0])
def v_X7_presses_1 (n : F1) (j : Nat) : Int32 := (if (nI j) ≤ 1 then (n 3) else (if (f_X7_isAxleOut n j) = 0 then (n 3) else (f_X7_lesser (n 3) 500)))
def v_X7_presses_3 (n : F1) (j : Nat) : Int32 := (if (v_X7_presses_1 n j) ≤ (n (10 + 16 * j + 1)) then (f_X7_greater ((n (10 + 16 * j + 1)) - 80) (v_X7_presses_1 n j)) else (f_X7_lesser ((n (10 + 16 * j + 1)) + 40) (v_X7_presses_1 n j)))
def v_X7_presses_5 (n : F1) (j : Nat) : Int32 := (if ((n (10 + 16 * j + 3)) - (n (10 + 16 * j + 3)) / 2 * 2) = 1 then ((n (10 + 16 * j + 1)) + 20) else (n (10 + 16 * j + 1)))
def f_X7_presses_a (n : F1) (j : Nat) : F1 := (if (n (10 + 16 * j + 2)) = 0 then (f_X7_sets_a n (v_X7_presses_3 n j) (10 + 16 * j + 1)) else (if (n (10 + 16 * j + 2)) = 1 then (f_X7_sets_a n (f_X7_lesser (n (10 + 16 * j + 1)) (v_X7_presses_1 n j)) (10 + 16 * j + 1)) else (if (n (10 + 16 * j + 2)) = 2 then (f_X7_dumps_a n j) else (if (n (10 + 16 * j + 2)) = 3 then (f_X7_sets_a n (f_X7_lesser (n (10 + 16 * j + 1)) (v_X7_presses_1 n j)) (10 + 16 * j + 1)) else (if (n (10 + 16 * j + 2)) = 4 then (f_X7_sets_a n (f_X7_lesser (v_X7_presses_5 n j) (v_X7_presses_1 n j)) (10 + 16 * j + 1)) else (f_X7_sets_a n (f_X7_lesser (n (10 + 16 * j + 1)) (v_X7_presses_1 n j)) (10 + 16 * j + 1)))))))
theorem ok_X7_presses_a (n : F1) (j : Nat) (hM : MOK n) (hj : j < 4) : MOK (f_X7_presses_a n j) := by
  by_cases k0 : (n (10 + 16 * j + 2)) = 0
  · (try simp only [f_X7_presses_a, if_pos k0]); exact (MOK_w (j := j) (k := 1) (by omega) (by decide) hM)
  · by_cases k1 : (n (10 + 16 * j + 2)) = 1
    · (try simp only [f_X7_presses_a, if_neg k0, if_pos k1]); exact (MOK_w (j := j) (k := 1) (by omega) (by decide) hM)
    · by_cases k2 : (n (10 + 16 * j + 2)) = 2
      · (try simp only [f_X7_presses_a, if_neg k0, if_neg k1, if_pos k2]); exact (ok_X7_dumps_a n j hM (by assumption))
      · by_cases k3 : (n (10 + 16 * j + 2)) = 3
        · (try simp only [f_X7_presses_a, if_neg k0, if_neg k1, if_neg k2, if_pos k3]); exact (MOK_w (j := j) (k := 1) (by omega) (by decide) hM)
        · by_cases k4 : (n (10 + 16 * j + 2)) = 4
          · (try simp only [f_X7_presses_a, if_neg k0, if_neg k1, if_neg k2, if_neg k3, if_pos k4]); exact (MOK_w (j := j) (k := 1) (by omega) (by decide) hM)
          · (try simp only [f_X7_presses_a, if_neg k0, if_neg k1, if_neg k2, if_neg k3, if_neg k4]); exact (MOK_w (j := j) (k := 1) (by omega) (by decide) hM)
set_option maxHeartbeats 4000000 in
set_option maxRecDepth 100000 in
theorem c_X7_presses (l : Launch) (D : va_G) (ty : Nat → ClassId) (o : Nat) (a : Nat) (b : Nat) (c_ : Nat) (g : F1) (hs : Int64) (n : F1) (j : Nat) (hM : MOK n) (hj : j < 4) : MC l D ty yX7_presses cX7_presses 4 none 3 [.ref o, .int (nI j)] [(o, moE g hs a b c_), (a, arE ty 253 n)] none [(o, moE g hs a b c_), (a, arE ty 253 (f_X7_presses_a n j))] := by
  refine mc_v (by decide +kernel) (Nat.le_of_ble_eq_true rfl) ?_
  intro p e s m args below meth c A Q ls C hK hA X hret hl
  have hx := C.1
  have hb := C.2.1
  have hl : lv_has ls 4 [(0, .ref o), (1, .int (nI j))] := hl
  have X : Wd D A s.heap [(o, moE g hs a b c_), (a, arE ty 253 n)] s.heap [] := X
  refine lv_iload_n hx hb dX7_presses_0 rfl (lv_at hl 1 rfl) ?_
  refine lv_iconst (v := 1) hx hb dX7_presses_1 (by decide) ?_
  have J34_2 : ∀ (x1 : Int32) (ls : Array Slot) (H : Heap) (locs : List Loc), x1 = (v_X7_presses_1 n j) → lv_has ls 4 [(0, .ref o), (1, .int (nI j))] → Wd D A s.heap [(o, moE g hs a b c_), (a, arE ty 253 n)] H locs → W p l e (rmD 3) s m args below meth c H locs 0 0 Q (F0 m 34 ls [.int x1]) := by
    intro x1 ls H locs ex1 hl X
    subst ex1
    refine lv_istore_n (lv' := [(2, .int (v_X7_presses_1 n j)), (0, .ref o), (1, .int (nI j))]) hx hb dX7_presses_34 rfl hl (by decide) rfl (fun ls hl => ?_)
    refine lv_aload_n hx hb dX7_presses_35 rfl (lv_at hl 1 rfl) ?_
    refine lv_iload_n hx hb dX7_presses_36 rfl (lv_at hl 2 rfl) ?_
    refine lv_iconst (v := 1) hx hb dX7_presses_37 (by decide) ?_
    refine s_cV0i C hK hA X (c_X7_get l D ty o a b c_ g hs n (nI j) 1 (10 + 16 * j + 1) (atN j 1) (by omega)) [0, 1] (pk_c rfl (pk_c rfl pk_n)) rfl ml_X7_get wm_X7_45 (q0 := 0) rfl rfl rfl ⟨Nat.le_of_ble_eq_true rfl, Nat.le_of_ble_eq_true rfl⟩ ⟨Nat.zero_le _, Nat.zero_le _⟩ hl.1 rfl (Nat.le_of_ble_eq_true rfl) dX7_presses_38 (fun H locs X => ?_)
    refine lv_istore_n (lv' := [(3, .int (n (10 + 16 * j + 1))), (2, .int (v_X7_presses_1 n j)), (0, .ref o), (1, .int (nI j))]) hx hb dX7_presses_41 rfl hl (by decide) rfl (fun ls hl => ?_)
    refine lv_aload_n hx hb dX7_presses_42 rfl (lv_at hl 2 rfl) ?_
    refine lv_iload_n hx hb dX7_presses_43 rfl (lv_at hl 3 rfl) ?_
    refine lv_iconst (v := 2) hx hb dX7_presses_44 (by decide) ?_
    refine s_cV0i C hK hA X (c_X7_get l D ty o a b c_ g hs n (nI j) 2 (10 + 16 * j + 2) (atN j 2) (by omega)) [0, 1] (pk_c rfl (pk_c rfl pk_n)) rfl ml_X7_get wm_X7_45 (q0 := 0) rfl rfl rfl ⟨Nat.le_of_ble_eq_true rfl, Nat.le_of_ble_eq_true rfl⟩ ⟨Nat.zero_le _, Nat.zero_le _⟩ hl.1 rfl (Nat.le_of_ble_eq_true rfl) dX7_presses_45 (fun H locs X => ?_)
    by_cases c0_0 : (n (10 + 16 * j + 2)) = 0
    · refine lv_tableIn (off := 36) (tgt := 84) hx hb dX7_presses_48 (by rw [c0_0]; decide) (by rw [c0_0]; decide) (by rw [c0_0]; rfl) (by decide) ?_
      refine lv_aload_n hx hb dX7_presses_84 rfl (lv_at hl 2 rfl) ?_
      refine lv_iload_n hx hb dX7_presses_85 rfl (lv_at hl 3 rfl) ?_
      refine lv_iconst (v := 1) hx hb dX7_presses_86 (by decide) ?_
      refine lv_iload_n hx hb dX7_presses_87 rfl (lv_at hl 0 rfl) ?_
      refine lv_iload_n hx hb dX7_presses_88 rfl (lv_at hl 1 rfl) ?_
      have J111_4 : ∀ (x3 : Int32) (ls : Array Slot) (H : Heap) (locs : List Loc), x3 = (v_X7_presses_3 n j) → lv_has ls 4 [(3, .int (n (10 + 16 * j + 1))), (2, .int (v_X7_presses_1 n j)), (0, .ref o), (1, .int (nI j))] → Wd D A s.heap [(o, moE g hs a b c_), (a, arE ty 253 n)] H locs → W p l e (rmD 3) s m args below meth c H locs 0 0 Q (F0 m 111 ls [.int x3, .int 1, .int (nI j), .ref o]) := by
        intro x3 ls H locs ex3 hl X
        subst ex3
        refine s_cVv (ws' := [(o, moE g hs a b c_), (a, arE ty 253 (f_X7_sets_a n (v_X7_presses_3 n j) (10 + 16 * j + 1)))]) C hK hA X (c_X7_sets l D ty o a b c_ g hs n (nI j) 1 (v_X7_presses_3 n j) (10 + 16 * j + 1) (atN j 1) (by omega)) [0, 1] (pk_c rfl (pk_c rfl pk_n)) rfl (pk_c rfl (pk_c rfl pk_n)) (em_t (em_t em_n)) rfl ml_X7_sets wm_X7_59 (q0 := 0) rfl rfl rfl ⟨Nat.le_of_ble_eq_true rfl, Nat.le_of_ble_eq_true rfl⟩ ⟨Nat.zero_le _, Nat.zero_le _⟩ hl.1 rfl (Nat.le_of_ble_eq_true rfl) dX7_presses_111 (fun H locs X => ?_)
        refine lv_goto (tgt := 169) hx hb dX7_presses_114 (by decide) ?_
        have e_1_0 : (f_X7_presses_a n j) = (f_X7_sets_a n (v_X7_presses_3 n j) (10 + 16 * j + 1)) := by first | (rw [f_X7_presses_a, if_pos c0_0]; done) | (rw [f_X7_presses_a, if_pos c0_0]; rfl) | (simp only [f_X7_presses_a, if_pos c0_0]; done)
        exact hret _ _ _ _ _ dX7_presses_169 X (by rw [e_1_0])
      refine lv_icmp_ge (tgt := 103) hx hb dX7_presses_89 (by decide) (fun c1_1 => ?_) (fun c1_1 => ?_)
      · refine lv_iload_n hx hb dX7_presses_103 rfl (lv_at hl 0 rfl) ?_
        refine lv_bipush (v := 80) hx hb dX7_presses_104 (by decide) ?_
        refine lv_isub hx hb dX7_presses_106 ?_
        refine lv_iload_n hx hb dX7_presses_107 rfl (lv_at hl 1 rfl) ?_
        refine s_cS0i C hK hA X (c_X7_greater l D ty ((n (10 + 16 * j + 1)) - 80) (v_X7_presses_1 n j)) [] pk_n rfl sl_X7_greater wm_X7_70 ⟨Nat.le_of_ble_eq_true rfl, Nat.le_of_ble_eq_true rfl⟩ ⟨Nat.zero_le _, Nat.zero_le _⟩ hl.1 rfl (Nat.le_of_ble_eq_true rfl) dX7_presses_108 (fun H locs X => ?_)
        exact J111_4 (f_X7_greater ((n (10 + 16 * j + 1)) - 80) (v_X7_presses_1 n j)) _ _ _ (by first | (rw [v_X7_presses_3, if_pos c1_1]; done) | (rw [v_X7_presses_3, if_pos c1_1]; rfl) | (simp only [v_X7_presses_3, if_pos c1_1]; done)) (lv_sub hl [0, 1, 2, 3] rfl) X
      · refine lv_iload_n hx hb dX7_presses_92 rfl (lv_at hl 0 rfl) ?_
        refine lv_bipush (v := 40) hx hb dX7_presses_93 (by decide) ?_
        refine lv_iadd hx hb dX7_presses_95 ?_
        refine lv_iload_n hx hb dX7_presses_96 rfl (lv_at hl 1 rfl) ?_
        refine s_cS0i C hK hA X (c_X7_lesser l D ty ((n (10 + 16 * j + 1)) + 40) (v_X7_presses_1 n j)) [] pk_n rfl sl_X7_lesser wm_X7_73 ⟨Nat.le_of_ble_eq_true rfl, Nat.le_of_ble_eq_true rfl⟩ ⟨Nat.zero_le _, Nat.zero_le _⟩ hl.1 rfl (Nat.le_of_ble_eq_true rfl) dX7_presses_97 (fun H locs X => ?_)
        refine lv_goto (tgt := 111) hx hb dX7_presses_100 (by decide) ?_
        exact J111_4 (f_X7_lesser ((n (10 + 16 * j + 1)) + 40) (v_X7_presses_1 n j)) _ _ _ (by first | (rw [v_X7_presses_3, if_neg c1_1]; done) | (rw [v_X7_presses_3, if_neg c1_1]; rfl) | (simp only [v_X7_presses_3, if_neg c1_1]; done)) (lv_sub hl [0, 1, 2, 3] rfl) X
    · by_cases c1_1 : (n (10 + 16 * j + 2)) = 1
      · refine lv_tableIn (off := 110) (tgt := 158) hx hb dX7_presses_48 (by rw [c1_1]; decide) (by rw [c1_1]; decide) (by rw [c1_1]; rfl) (by decide) ?_
        refine lv_aload_n hx hb dX7_presses_158 rfl (lv_at hl 2 rfl) ?_
        refine lv_iload_n hx hb dX7_presses_159 rfl (lv_at hl 3 rfl) ?_
        refine lv_iconst (v := 1) hx hb dX7_presses_160 (by decide) ?_
        refine lv_iload_n hx hb dX7_presses_161 rfl (lv_at hl 0 rfl) ?_
        refine lv_iload_n hx hb dX7_presses_162 rfl (lv_at hl 1 rfl) ?_
        refine s_cS0i C hK hA X (c_X7_lesser l D ty (n (10 + 16 * j + 1)) (v_X7_presses_1 n j)) [] pk_n rfl sl_X7_lesser wm_X7_73 ⟨Nat.le_of_ble_eq_true rfl, Nat.le_of_ble_eq_true rfl⟩ ⟨Nat.zero_le _, Nat.zero_le _⟩ hl.1 rfl (Nat.le_of_ble_eq_true rfl) dX7_presses_163 (fun H locs X => ?_)
        refine s_cVv (ws' := [(o, moE g hs a b c_), (a, arE ty 253 (f_X7_sets_a n (f_X7_lesser (n (10 + 16 * j + 1)) (v_X7_presses_1 n j)) (10 + 16 * j + 1)))]) C hK hA X (c_X7_sets l D ty o a b c_ g hs n (nI j) 1 (f_X7_lesser (n (10 + 16 * j + 1)) (v_X7_presses_1 n j)) (10 + 16 * j + 1) (atN j 1) (by omega)) [0, 1] (pk_c rfl (pk_c rfl pk_n)) rfl (pk_c rfl (pk_c rfl pk_n)) (em_t (em_t em_n)) rfl ml_X7_sets wm_X7_59 (q0 := 0) rfl rfl rfl ⟨Nat.le_of_ble_eq_true rfl, Nat.le_of_ble_eq_true rfl⟩ ⟨Nat.zero_le _, Nat.zero_le _⟩ hl.1 rfl (Nat.le_of_ble_eq_true rfl) dX7_presses_166 (fun H locs X => ?_)
        have e_1_0 : (f_X7_presses_a n j) = (f_X7_sets_a n (f_X7_lesser (n (10 + 16 * j + 1)) (v_X7_presses_1 n j)) (10 + 16 * j + 1)) := by first | (rw [f_X7_presses_a, if_neg c0_0, if_pos c1_1]; done) | (rw [f_X7_presses_a, if_neg c0_0, if_pos c1_1]; rfl) | (simp only [f_X7_presses_a, if_neg c0_0, if_pos c1_1]; done)
        exact hret _ _ _ _ _ dX7_presses_169 X (by rw [e_1_0])
      · by_cases c2_2 : (n (10 + 16 * j + 2)) = 2
        · refine lv_tableIn (off := 69) (tgt := 117) hx hb dX7_presses_48 (by rw [c2_2]; decide) (by rw [c2_2]; decide) (by rw [c2_2]; rfl) (by decide) ?_
          refine lv_aload_n hx hb dX7_presses_117 rfl (lv_at hl 2 rfl) ?_
          refine lv_iload_n hx hb dX7_presses_118 rfl (lv_at hl 3 rfl) ?_
          refine s_cVv (ws' := [(o, moE g hs a b c_), (a, arE ty 253 (f_X7_dumps_a n j))]) C hK hA X (c_X7_dumps l D ty o a b c_ g hs n j hM (by assumption)) [0, 1] (pk_c rfl (pk_c rfl pk_n)) rfl (pk_c rfl (pk_c rfl pk_n)) (em_t (em_t em_n)) rfl ml_X7_dumps wm_X7_108 (q0 := 0) rfl rfl rfl ⟨Nat.le_of_ble_eq_true rfl, Nat.le_of_ble_eq_true rfl⟩ ⟨Nat.zero_le _, Nat.zero_le _⟩ hl.1 rfl (Nat.le_of_ble_eq_true rfl) dX7_presses_119 (fun H locs X => ?_)
          refine lv_goto (tgt := 169) hx hb dX7_presses_122 (by decide) ?_
          have e_1_0 : (f_X7_presses_a n j) = (f_X7_dumps_a n j) := by first | (rw [f_X7_presses_a, if_neg c0_0, if_neg c1_1, if_pos c2_2]; done) | (rw [f_X7_presses_a, if_neg c0_0, if_neg c1_1, if_pos c2_2]; rfl) | (simp only [f_X7_presses_a, if_neg c0_0, if_neg c1_1, if_pos c2_2]; done)
          exact hret _ _ _ _ _ dX7_presses_169 X (by rw [e_1_0])
        · by_cases c3_3 : (n (10 + 16 * j + 2)) = 3
          · refine lv_tableIn (off := 110) (tgt := 158) hx hb dX7_presses_48 (by rw [c3_3]; decide) (by rw [c3_3]; decide) (by rw [c3_3]; rfl) (by decide) ?_
            refine lv_aload_n hx hb dX7_presses_158 rfl (lv_at hl 2 rfl) ?_
            refine lv_iload_n hx hb dX7_presses_159 rfl (lv_at hl 3 rfl) ?_
            refine lv_iconst (v := 1) hx hb dX7_presses_160 (by decide) ?_
            refine lv_iload_n hx hb dX7_presses_161 rfl (lv_at hl 0 rfl) ?_
            refine lv_iload_n hx hb dX7_presses_162 rfl (lv_at hl 1 rfl) ?_
            refine s_cS0i C hK hA X (c_X7_lesser l D ty (n (10 + 16 * j + 1)) (v_X7_presses_1 n j)) [] pk_n rfl sl_X7_lesser wm_X7_73 ⟨Nat.le_of_ble_eq_true rfl, Nat.le_of_ble_eq_true rfl⟩ ⟨Nat.zero_le _, Nat.zero_le _⟩ hl.1 rfl (Nat.le_of_ble_eq_true rfl) dX7_presses_163 (fun H locs X => ?_)
            refine s_cVv (ws' := [(o, moE g hs a b c_), (a, arE ty 253 (f_X7_sets_a n (f_X7_lesser (n (10 + 16 * j + 1)) (v_X7_presses_1 n j)) (10 + 16 * j + 1)))]) C hK hA X (c_X7_sets l D ty o a b c_ g hs n (nI j) 1 (f_X7_lesser (n (10 + 16 * j + 1)) (v_X7_presses_1 n j)) (10 + 16 * j + 1) (atN j 1) (by omega)) [0, 1] (pk_c rfl (pk_c rfl pk_n)) rfl (pk_c rfl (pk_c rfl pk_n)) (em_t (em_t em_n)) rfl ml_X7_sets wm_X7_59 (q0 := 0) rfl rfl rfl ⟨Nat.le_of_ble_eq_true rfl, Nat.le_of_ble_eq_true rfl⟩ ⟨Nat.zero_le _, Nat.zero_le _⟩ hl.1 rfl (Nat.le_of_ble_eq_true rfl) dX7_presses_166 (fun H locs X => ?_)
            have e_1_0 : (f_X7_presses_a n j) = (f_X7_sets_a n (f_X7_lesser (n (10 + 16 * j + 1)) (v_X7_presses_1 n j)) (10 + 16 * j + 1)) := by first | (rw [f_X7_presses_a, if_neg c0_0, if_neg c1_1, if_neg c2_2, if_pos c3_3]; done) | (rw [f_X7_presses_a, if_neg c0_0, if_neg c1_1, if_neg c2_2, if_pos c3_3]; rfl) | (simp only [f_X7_presses_a, if_neg c0_0, if_neg c1_1, if_neg c2_2, if_pos c3_3]; done)
            exact hret _ _ _ _ _ dX7_presses_169 X (by rw [e_1_0])
          · by_cases c4_4 : (n (10 + 16 * j + 2)) = 4
            · refine lv_tableIn (off := 77) (tgt := 125) hx hb dX7_presses_48 (by rw [c4_4]; decide) (by rw [c4_4]; decide) (by rw [c4_4]; rfl) (by decide) ?_
              refine lv_aload_n hx hb dX7_presses_125 rfl (lv_at hl 2 rfl) ?_
              refine lv_iload_n hx hb dX7_presses_126 rfl (lv_at hl 3 rfl) ?_
              refine lv_iconst (v := 1) hx hb dX7_presses_127 (by decide) ?_
              refine lv_aload_n hx hb dX7_presses_128 rfl (lv_at hl 2 rfl) ?_
              refine lv_iload_n hx hb dX7_presses_129 rfl (lv_at hl 3 rfl) ?_
              refine lv_iconst (v := 3) hx hb dX7_presses_130 (by decide) ?_
              refine s_cV0i C hK hA X (c_X7_get l D ty o a b c_ g hs n (nI j) 3 (10 + 16 * j + 3) (atN j 3) (by omega)) [0, 1] (pk_c rfl (pk_c rfl pk_n)) rfl ml_X7_get wm_X7_45 (q0 := 0) rfl rfl rfl ⟨Nat.le_of_ble_eq_true rfl, Nat.le_of_ble_eq_true rfl⟩ ⟨Nat.zero_le _, Nat.zero_le _⟩ hl.1 rfl (Nat.le_of_ble_eq_true rfl) dX7_presses_131 (fun H locs X => ?_)
              refine lv_iconst (v := 2) hx hb dX7_presses_134 (by decide) ?_
              refine lv_irem hx hb dX7_presses_135 (by decide) ?_
              refine lv_iconst (v := 1) hx hb dX7_presses_136 (by decide) ?_
              have J148_6 : ∀ (x5 : Int32) (ls : Array Slot) (H : Heap) (locs : List Loc), x5 = (v_X7_presses_5 n j) → lv_has ls 4 [(3, .int (n (10 + 16 * j + 1))), (2, .int (v_X7_presses_1 n j)), (0, .ref o), (1, .int (nI j))] → Wd D A s.heap [(o, moE g hs a b c_), (a, arE ty 253 n)] H locs → W p l e (rmD 3) s m args below meth c H locs 0 0 Q (F0 m 148 ls [.int x5, .int 1, .int (nI j), .ref o]) := by
                intro x5 ls H locs ex5 hl X
                subst ex5
                refine lv_iload_n hx hb dX7_presses_148 rfl (lv_at hl 1 rfl) ?_
                refine s_cS0i C hK hA X (c_X7_lesser l D ty (v_X7_presses_5 n j) (v_X7_presses_1 n j)) [] pk_n rfl sl_X7_lesser wm_X7_73 ⟨Nat.le_of_ble_eq_true rfl, Nat.le_of_ble_eq_true rfl⟩ ⟨Nat.zero_le _, Nat.zero_le _⟩ hl.1 rfl (Nat.le_of_ble_eq_true rfl) dX7_presses_149 (fun H locs X => ?_)
                refine s_cVv (ws' := [(o, moE g hs a b c_), (a, arE ty 253 (f_X7_sets_a n (f_X7_lesser (v_X7_presses_5 n j) (v_X7_presses_1 n j)) (10 + 16 * j + 1)))]) C hK hA X (c_X7_sets l D ty o a b c_ g hs n (nI j) 1 (f_X7_lesser (v_X7_presses_5 n j) (v_X7_presses_1 n j)) (10 + 16 * j + 1) (atN j 1) (by omega)) [0, 1] (pk_c rfl (pk_c rfl pk_n)) rfl (pk_c rfl (pk_c rfl pk_n)) (em_t (em_t em_n)) rfl ml_X7_sets wm_X7_59 (q0 := 0) rfl rfl rfl ⟨Nat.le_of_ble_eq_true rfl, Nat.le_of_ble_eq_true rfl⟩ ⟨Nat.zero_le _, Nat.zero_le _⟩ hl.1 rfl (Nat.le_of_ble_eq_true rfl) dX7_presses_152 (fun H locs X => ?_)
                refine lv_goto (tgt := 169) hx hb dX7_presses_155 (by decide) ?_
                have e_1_0 : (f_X7_presses_a n j) = (f_X7_sets_a n (f_X7_lesser (v_X7_presses_5 n j) (v_X7_presses_1 n j)) (10 + 16 * j + 1)) := by first | (rw [f_X7_presses_a, if_neg c0_0, if_neg c1_1, if_neg c2_2, if_neg c3_3, if_pos c4_4]; done) | (rw [f_X7_presses_a, if_neg c0_0, if_neg c1_1, if_neg c2_2, if_neg c3_3, if_pos c4_4]; rfl) | (simp only [f_X7_presses_a, if_neg c0_0, if_neg c1_1, if_neg c2_2, if_neg c3_3, if_pos c4_4]; done)
                exact hret _ _ _ _ _ dX7_presses_169 X (by rw [e_1_0])
              refine lv_icmp_ne (tgt := 147) hx hb dX7_presses_137 (by decide) (fun c5_5 => ?_) (fun c5_5 => ?_)
              · refine lv_iload_n hx hb dX7_presses_147 rfl (lv_at hl 0 rfl) ?_
                exact J148_6 (n (10 + 16 * j + 1)) _ _ _ (by first | (rw [v_X7_presses_5, if_neg c5_5]; done) | (rw [v_X7_presses_5, if_neg c5_5]; rfl) | (simp only [v_X7_presses_5, if_neg c5_5]; done)) (lv_sub hl [0, 1, 2, 3] rfl) X
              · refine lv_iload_n hx hb dX7_presses_140 rfl (lv_at hl 0 rfl) ?_
                refine lv_bipush (v := 20) hx hb dX7_presses_141 (by decide) ?_
                refine lv_iadd hx hb dX7_presses_143 ?_
                refine lv_goto (tgt := 148) hx hb dX7_presses_144 (by decide) ?_
                exact J148_6 ((n (10 + 16 * j + 1)) + 20) _ _ _ (by first | (rw [v_X7_presses_5, if_pos c5_5]; done) | (rw [v_X7_presses_5, if_pos c5_5]; rfl) | (simp only [v_X7_presses_5, if_pos c5_5]; done)) (lv_sub hl [0, 1, 2, 3] rfl) X
            · refine lv_tableOut (tgt := 158) hx hb dX7_presses_48 (sw_out5 c0_0 c1_1 c2_2 c3_3 c4_4) (by decide) ?_
              refine lv_aload_n hx hb dX7_presses_158 rfl (lv_at hl 2 rfl) ?_
              refine lv_iload_n hx hb dX7_presses_159 rfl (lv_at hl 3 rfl) ?_
              refine lv_iconst (v := 1) hx hb dX7_presses_160 (by decide) ?_
              refine lv_iload_n hx hb dX7_presses_161 rfl (lv_at hl 0 rfl) ?_
              refine lv_iload_n hx hb dX7_presses_162 rfl (lv_at hl 1 rfl) ?_
              refine s_cS0i C hK hA X (c_X7_lesser l D ty (n (10 + 16 * j + 1)) (v_X7_presses_1 n j)) [] pk_n rfl sl_X7_lesser wm_X7_73 ⟨Nat.le_of_ble_eq_true rfl, Nat.le_of_ble_eq_true rfl⟩ ⟨Nat.zero_le _, Nat.zero_le _⟩ hl.1 rfl (Nat.le_of_ble_eq_true rfl) dX7_presses_163 (fun H locs X => ?_)
              refine s_cVv (ws' := [(o, moE g hs a b c_), (a, arE ty 253 (f_X7_sets_a n (f_X7_lesser (n (10 + 16 * j + 1)) (v_X7_presses_1 n j)) (10 + 16 * j + 1)))]) C hK hA X (c_X7_sets l D ty o a b c_ g hs n (nI j) 1 (f_X7_lesser (n (10 + 16 * j + 1)) (v_X7_presses_1 n j)) (10 + 16 * j + 1) (atN j 1) (by omega)) [0, 1] (pk_c rfl (pk_c rfl pk_n)) rfl (pk_c rfl (pk_c rfl pk_n)) (em_t (em_t em_n)) rfl ml_X7_sets wm_X7_59 (q0 := 0) rfl rfl rfl ⟨Nat.le_of_ble_eq_true rfl, Nat.le_of_ble_eq_true rfl⟩ ⟨Nat.zero_le _, Nat.zero_le _⟩ hl.1 rfl (Nat.le_of_ble_eq_true rfl) dX7_presses_166 (fun H locs X => ?_)
              have e_1_0 : (f_X7_presses_a n j) = (f_X7_sets_a n (f_X7_lesser (n (10 + 16 * j + 1)) (v_X7_presses_1 n j)) (10 + 16 * j + 1)) := by first | (rw [f_X7_presses_a, if_neg c0_0, if_neg c1_1, if_neg c2_2, if_neg c3_3, if_neg c4_4]; done) | (rw [f_X7_presses_a, if_neg c0_0, if_neg c1_1, if_neg c2_2, if_neg c3_3, if_neg c4_4]; rfl) | (simp only [f_X7_presses_a, if_neg c0_0, if_neg c1_1, if_neg c2_2, if_neg c3_3, if_neg c4_4]; done)
              exact hret _ _ _ _ _ dX7_presses_169 X (by rw [e_1_0])
  refine lv_icmp_le (tgt := 28) hx hb dX7_presses_2 (by decide) (fun c0_0 => ?_) (fun c0_0 => ?_)
  · refine lv_aload_n hx hb dX7_presses_28 rfl (lv_at hl 0 rfl) ?_
    refine get_mo_0 C hK X 0 rfl fl_X7_7 dX7_presses_29 ?_
    refine lv_iconst (v := 3) hx hb dX7_presses_32 (by decide) ?_
    refine s_ialN C hK X 1 3 rfl rfl (by decide) (by decide) dX7_presses_33 ?_
    exact J34_2 (n 3) _ _ _ (by first | (rw [v_X7_presses_1, if_pos c0_0]; done) | (rw [v_X7_presses_1, if_pos c0_0]; rfl) | (simp only [v_X7_presses_1, if_pos c0_0]; done)) (lv_sub hl [0, 1] rfl) X
  · refine lv_aload_n hx hb dX7_presses_5 rfl (lv_at hl 0 rfl) ?_
    refine lv_iload_n hx hb dX7_presses_6 rfl (lv_at hl 1 rfl) ?_
    refine s_cV0i C hK hA X (c_X7_isAxleOut l D ty o a b c_ g hs n j (by assumption)) [0, 1] (pk_c rfl (pk_c rfl pk_n)) rfl ml_X7_isAxleOut wm_X7_87 (q0 := 0) rfl rfl rfl ⟨Nat.le_of_ble_eq_true rfl, Nat.le_of_ble_eq_true rfl⟩ ⟨Nat.zero_le _, Nat.zero_le _⟩ hl.1 rfl (Nat.le_of_ble_eq_true rfl) dX7_presses_7 (fun H locs X => ?_)
    refine lv_if_eq (tgt := 28) hx hb dX7_presses_10 (by decide) (fun c1_1 => ?_) (fun c1_1 => ?_)
    · refine lv_aload_n hx hb dX7_presses_28 rfl (lv_at hl 0 rfl) ?_
      refine get_mo_0 C hK X 0 rfl fl_X7_7 dX7_presses_29 ?_
      refine lv_iconst (v := 3) hx hb dX7_presses_32 (by decide) ?_
      refine s_ialN C hK X 1 3 rfl rfl (by decide) (by decide) dX7_presses_33 ?_
      exact J34_2 (n 3) _ _ _ (by first | (rw [v_X7_presses_1, if_neg c0_0, if_pos c1_1]; done) | (rw [v_X7_presses_1, if_neg c0_0, if_pos c1_1]; rfl) | (simp only [v_X7_presses_1, if_neg c0_0, if_pos c1_1]; done)) (lv_sub hl [0, 1] rfl) X
    · refine lv_aload_n hx hb dX7_presses_13 rfl (lv_at hl 0 rfl) ?_
      refine get_mo_0 C hK X 0 rfl fl_X7_7 dX7_presses_14 ?_
      refine lv_iconst (v := 3) hx hb dX7_presses_17 (by decide) ?_
      refine s_ialN C hK X 1 3 rfl rfl (by decide) (by decide) dX7_presses_18 ?_
      refine lv_sipush (v := 500) hx hb dX7_presses_19 (by decide) ?_
      refine s_cS0i C hK hA X (c_X7_lesser l D ty (n 3) 500) [] pk_n rfl sl_X7_lesser wm_X7_73 ⟨Nat.le_of_ble_eq_true rfl, Nat.le_of_ble_eq_true rfl⟩ ⟨Nat.zero_le _, Nat.zero_le _⟩ hl.1 rfl (Nat.le_of_ble_eq_true rfl) dX7_presses_22 (fun H locs X => ?_)
      refine lv_goto (tgt := 34) hx hb dX7_presses_25 (by decide) ?_
      exact J34_2 (f_X7_lesser (n 3) 500) _ _ _ (by first | (rw [v_X7_presses_1, if_neg c0_0, if_neg c1_1]; done) | (rw [v_X7_presses_1, if_neg c0_0, if_neg c1_1]; rfl) | (simp only [v_X7_presses_1, if_neg c0_0, if_neg c1_1]; done)) (lv_sub hl [0, 1] rfl) X
def v_X7_yaws_1 (n : F1) : F1 := (f_X7_sets_a (f_X7_sets_a n (f_X7_lesser (n 11) ((n 27) + (n 7))) 11) (f_X7_lesser (n 27) ((n 11) + ((f_X7_sets_a n (f_X7_lesser (n 11) ((n 27) + (n 7))) 11) 7))) 27)
theorem okm_X7_yaws_2 (n : F1) (hM : MOK n) : MOK (v_X7_yaws_1 n) := by
  exact (MOK_w (j := 1) (k := 1) (by omega) (by decide) (MOK_w (j := 0) (k := 1) (by omega) (by decide) hM))
def v_X7_yaws_3 (n : F1) : F1 := (f_X7_sets_a (f_X7_sets_a n (f_X7_lesser (n 11) ((n 27) + (n 7))) 11) (f_X7_lesser (n 27) ((n 11) + ((f_X7_sets_a n (f_X7_lesser (n 11) ((n 27) + (n 7))) 11) 7))) 27)
theorem okm_X7_yaws_4 (n : F1) (hM : MOK n) : MOK (v_X7_yaws_3 n) := by
  exact (MOK_w (j := 1) (k := 1) (by omega) (by decide) (MOK_w (j := 0) (k := 1) (by omega) (by decide) hM))
def f_X7_yaws_a (n : F1) : F1 := (if (n 12) = 0 then (if (n 28) = 0 then (upd n 7 150) else (upd (v_X7_yaws_3 n) 7 (f_X7_lesser 1000 (((v_X7_yaws_3 n) 7) + 4)))) else (upd (v_X7_yaws_1 n) 7 (f_X7_lesser 1000 (((v_X7_yaws_1 n) 7) + 4))))
theorem ok_X7_yaws_a (n : F1) (hM : MOK n) : MOK (f_X7_yaws_a n) := by
  by_cases k0 : (n 12) = 0
  · by_cases k1 : (n 28) = 0
    · (try simp only [f_X7_yaws_a, if_pos k0, if_pos k1]); exact (MOK_i (by decide) hM)
    · (try simp only [f_X7_yaws_a, if_pos k0, if_neg k1]); exact (MOK_i (by decide) (okm_X7_yaws_4 n hM))
  · (try simp only [f_X7_yaws_a, if_neg k0]); exact (MOK_i (by decide) (okm_X7_yaws_2 n hM))
set_option maxHeartbeats 4000000 in
set_option maxRecDepth 100000 in
theorem c_X7_yaws (l : Launch) (D : va_G) (ty : Nat → ClassId) (o : Nat) (a : Nat) (b : Nat) (c_ : Nat) (g : F1) (hs : Int64) (n : F1) (hM : MOK n) : MC l D ty yX7_yaws cX7_yaws 3 none 2 [.ref o] [(o, moE g hs a b c_), (a, arE ty 253 n)] none [(o, moE g hs a b c_), (a, arE ty 253 (f_X7_yaws_a n))] := by
  refine mc_v (by decide +kernel) (Nat.le_of_ble_eq_true rfl) ?_
  intro p e s m args below meth c A Q ls C hK hA X hret hl
  have hx := C.1
  have hb := C.2.1
  have hl : lv_has ls 3 [(0, .ref o)] := hl
  have X : Wd D A s.heap [(o, moE g hs a b c_), (a, arE ty 253 n)] s.heap [] := X
  refine lv_aload_n hx hb dX7_yaws_0 rfl (lv_at hl 0 rfl) ?_
  refine lv_iconst (v := 0) hx hb dX7_yaws_1 (by decide) ?_
  refine lv_iconst (v := 2) hx hb dX7_yaws_2 (by decide) ?_
  refine s_cV0i C hK hA X (c_X7_get l D ty o a b c_ g hs n 0 2 12 (by decide) (by decide)) [0, 1] (pk_c rfl (pk_c rfl pk_n)) rfl ml_X7_get wm_X7_45 (q0 := 0) rfl rfl rfl ⟨Nat.le_of_ble_eq_true rfl, Nat.le_of_ble_eq_true rfl⟩ ⟨Nat.zero_le _, Nat.zero_le _⟩ hl.1 rfl (Nat.le_of_ble_eq_true rfl) dX7_yaws_3 (fun H locs X => ?_)
  refine lv_if_ne (tgt := 29) hx hb dX7_yaws_6 (by decide) (fun c0_0 => ?_) (fun c0_0 => ?_)
  · refine lv_aload_n hx hb dX7_yaws_29 rfl (lv_at hl 0 rfl) ?_
    refine lv_iconst (v := 0) hx hb dX7_yaws_30 (by decide) ?_
    refine lv_iconst (v := 1) hx hb dX7_yaws_31 (by decide) ?_
    refine s_cV0i C hK hA X (c_X7_get l D ty o a b c_ g hs n 0 1 11 (by decide) (by decide)) [0, 1] (pk_c rfl (pk_c rfl pk_n)) rfl ml_X7_get wm_X7_45 (q0 := 0) rfl rfl rfl ⟨Nat.le_of_ble_eq_true rfl, Nat.le_of_ble_eq_true rfl⟩ ⟨Nat.zero_le _, Nat.zero_le _⟩ hl.1 rfl (Nat.le_of_ble_eq_true rfl) dX7_yaws_32 (fun H locs X => ?_)
    refine lv_istore_n (lv' := [(1, .int (n 11)), (0, .ref o)]) hx hb dX7_yaws_35 rfl hl (by decide) rfl (fun ls hl => ?_)
    refine lv_aload_n hx hb dX7_yaws_36 rfl (lv_at hl 1 rfl) ?_
    refine lv_iconst (v := 1) hx hb dX7_yaws_37 (by decide) ?_
    refine lv_iconst (v := 1) hx hb dX7_yaws_38 (by decide) ?_
    refine s_cV0i C hK hA X (c_X7_get l D ty o a b c_ g hs n 1 1 27 (by decide) (by decide)) [0, 1] (pk_c rfl (pk_c rfl pk_n)) rfl ml_X7_get wm_X7_45 (q0 := 0) rfl rfl rfl ⟨Nat.le_of_ble_eq_true rfl, Nat.le_of_ble_eq_true rfl⟩ ⟨Nat.zero_le _, Nat.zero_le _⟩ hl.1 rfl (Nat.le_of_ble_eq_true rfl) dX7_yaws_39 (fun H locs X => ?_)
    refine lv_istore_n (lv' := [(2, .int (n 27)), (1, .int (n 11)), (0, .ref o)]) hx hb dX7_yaws_42 rfl hl (by decide) rfl (fun ls hl => ?_)
    refine lv_aload_n hx hb dX7_yaws_43 rfl (lv_at hl 2 rfl) ?_
    refine lv_iconst (v := 0) hx hb dX7_yaws_44 (by decide) ?_
    refine lv_iconst (v := 1) hx hb dX7_yaws_45 (by decide) ?_
    refine lv_iload_n hx hb dX7_yaws_46 rfl (lv_at hl 1 rfl) ?_
    refine lv_iload_n hx hb dX7_yaws_47 rfl (lv_at hl 0 rfl) ?_
    refine lv_aload_n hx hb dX7_yaws_48 rfl (lv_at hl 2 rfl) ?_
    refine get_mo_0 C hK X 0 rfl fl_X7_7 dX7_yaws_49 ?_
    refine lv_bipush (v := 7) hx hb dX7_yaws_52 (by decide) ?_
    refine s_ialN C hK X 1 7 rfl rfl (by decide) (by decide) dX7_yaws_54 ?_
    refine lv_iadd hx hb dX7_yaws_55 ?_
    refine s_cS0i C hK hA X (c_X7_lesser l D ty (n 11) ((n 27) + (n 7))) [] pk_n rfl sl_X7_lesser wm_X7_73 ⟨Nat.le_of_ble_eq_true rfl, Nat.le_of_ble_eq_true rfl⟩ ⟨Nat.zero_le _, Nat.zero_le _⟩ hl.1 rfl (Nat.le_of_ble_eq_true rfl) dX7_yaws_56 (fun H locs X => ?_)
    refine s_cVv (ws' := [(o, moE g hs a b c_), (a, arE ty 253 (f_X7_sets_a n (f_X7_lesser (n 11) ((n 27) + (n 7))) 11))]) C hK hA X (c_X7_sets l D ty o a b c_ g hs n 0 1 (f_X7_lesser (n 11) ((n 27) + (n 7))) 11 (by decide) (by decide)) [0, 1] (pk_c rfl (pk_c rfl pk_n)) rfl (pk_c rfl (pk_c rfl pk_n)) (em_t (em_t em_n)) rfl ml_X7_sets wm_X7_59 (q0 := 0) rfl rfl rfl ⟨Nat.le_of_ble_eq_true rfl, Nat.le_of_ble_eq_true rfl⟩ ⟨Nat.zero_le _, Nat.zero_le _⟩ hl.1 rfl (Nat.le_of_ble_eq_true rfl) dX7_yaws_59 (fun H locs X => ?_)
    refine lv_aload_n hx hb dX7_yaws_62 rfl (lv_at hl 2 rfl) ?_
    refine lv_iconst (v := 1) hx hb dX7_yaws_63 (by decide) ?_
    refine lv_iconst (v := 1) hx hb dX7_yaws_64 (by decide) ?_
    refine lv_iload_n hx hb dX7_yaws_65 rfl (lv_at hl 0 rfl) ?_
    refine lv_iload_n hx hb dX7_yaws_66 rfl (lv_at hl 1 rfl) ?_
    refine lv_aload_n hx hb dX7_yaws_67 rfl (lv_at hl 2 rfl) ?_
    refine get_mo_0 C hK X 0 rfl fl_X7_7 dX7_yaws_68 ?_
    refine lv_bipush (v := 7) hx hb dX7_yaws_71 (by decide) ?_
    refine s_ialN C hK X 1 7 rfl rfl (by decide) (by decide) dX7_yaws_73 ?_
    refine lv_iadd hx hb dX7_yaws_74 ?_
    refine s_cS0i C hK hA X (c_X7_lesser l D ty (n 27) ((n 11) + ((f_X7_sets_a n (f_X7_lesser (n 11) ((n 27) + (n 7))) 11) 7))) [] pk_n rfl sl_X7_lesser wm_X7_73 ⟨Nat.le_of_ble_eq_true rfl, Nat.le_of_ble_eq_true rfl⟩ ⟨Nat.zero_le _, Nat.zero_le _⟩ hl.1 rfl (Nat.le_of_ble_eq_true rfl) dX7_yaws_75 (fun H locs X => ?_)
    refine s_cVv (ws' := [(o, moE g hs a b c_), (a, arE ty 253 (v_X7_yaws_1 n))]) C hK hA X (c_X7_sets l D ty o a b c_ g hs (f_X7_sets_a n (f_X7_lesser (n 11) ((n 27) + (n 7))) 11) 1 1 (f_X7_lesser (n 27) ((n 11) + ((f_X7_sets_a n (f_X7_lesser (n 11) ((n 27) + (n 7))) 11) 7))) 27 (by decide) (by decide)) [0, 1] (pk_c rfl (pk_c rfl pk_n)) rfl (pk_c rfl (pk_c rfl pk_n)) (em_t (em_t em_n)) rfl ml_X7_sets wm_X7_59 (q0 := 0) rfl rfl rfl ⟨Nat.le_of_ble_eq_true rfl, Nat.le_of_ble_eq_true rfl⟩ ⟨Nat.zero_le _, Nat.zero_le _⟩ hl.1 rfl (Nat.le_of_ble_eq_true rfl) dX7_yaws_78 (fun H locs X => ?_)
    refine lv_aload_n hx hb dX7_yaws_81 rfl (lv_at hl 2 rfl) ?_
    refine get_mo_0 C hK X 0 rfl fl_X7_7 dX7_yaws_82 ?_
    refine lv_bipush (v := 7) hx hb dX7_yaws_85 (by decide) ?_
    refine lv_sipush (v := 1000) hx hb dX7_yaws_87 (by decide) ?_
    refine lv_aload_n hx hb dX7_yaws_90 rfl (lv_at hl 2 rfl) ?_
    refine get_mo_0 C hK X 0 rfl fl_X7_7 dX7_yaws_91 ?_
    refine lv_bipush (v := 7) hx hb dX7_yaws_94 (by decide) ?_
    refine s_ialN C hK X 1 7 rfl rfl (by decide) (by decide) dX7_yaws_96 ?_
    refine lv_iconst (v := 4) hx hb dX7_yaws_97 (by decide) ?_
    refine lv_iadd hx hb dX7_yaws_98 ?_
    refine s_cS0i C hK hA X (c_X7_lesser l D ty 1000 (((v_X7_yaws_1 n) 7) + 4)) [] pk_n rfl sl_X7_lesser wm_X7_73 ⟨Nat.le_of_ble_eq_true rfl, Nat.le_of_ble_eq_true rfl⟩ ⟨Nat.zero_le _, Nat.zero_le _⟩ hl.1 rfl (Nat.le_of_ble_eq_true rfl) dX7_yaws_99 (fun H locs X => ?_)
    refine s_iasN C hK X 1 7 rfl rfl (by decide) (by decide) dX7_yaws_102 (fun H locs X => ?_)
    have X : Wd D A s.heap [(o, moE g hs a b c_), (a, arE ty 253 (upd (v_X7_yaws_1 n) 7 (f_X7_lesser 1000 (((v_X7_yaws_1 n) 7) + 4))))] H locs := X
    have e_1_0 : (f_X7_yaws_a n) = (upd (v_X7_yaws_1 n) 7 (f_X7_lesser 1000 (((v_X7_yaws_1 n) 7) + 4))) := by first | (rw [f_X7_yaws_a, if_neg c0_0]; done) | (rw [f_X7_yaws_a, if_neg c0_0]; rfl) | (simp only [f_X7_yaws_a, if_neg c0_0]; done)
    exact hret _ _ _ _ _ dX7_yaws_103 X (by rw [e_1_0])
  · refine lv_aload_n hx hb dX7_yaws_9 rfl (lv_at hl 0 rfl) ?_
    refine lv_iconst (v := 1) hx hb dX7_yaws_10 (by decide) ?_
    refine lv_iconst (v := 2) hx hb dX7_yaws_11 (by decide) ?_
    refine s_cV0i C hK hA X (c_X7_get l D ty o a b c_ g hs n 1 2 28 (by decide) (by decide)) [0, 1] (pk_c rfl (pk_c rfl pk_n)) rfl ml_X7_get wm_X7_45 (q0 := 0) rfl rfl rfl ⟨Nat.le_of_ble_eq_true rfl, Nat.le_of_ble_eq_true rfl⟩ ⟨Nat.zero_le _, Nat.zero_le _⟩ hl.1 rfl (Nat.le_of_ble_eq_true rfl) dX7_yaws_12 (fun H locs X => ?_)
    refine lv_if_ne (tgt := 29) hx hb dX7_yaws_15 (by decide) (fun c1_1 => ?_) (fun c1_1 => ?_)
    · refine lv_aload_n hx hb dX7_yaws_29 rfl (lv_at hl 0 rfl) ?_
      refine lv_iconst (v := 0) hx hb dX7_yaws_30 (by decide) ?_
      refine lv_iconst (v := 1) hx hb dX7_yaws_31 (by decide) ?_
      refine s_cV0i C hK hA X (c_X7_get l D ty o a b c_ g hs n 0 1 11 (by decide) (by decide)) [0, 1] (pk_c rfl (pk_c rfl pk_n)) rfl ml_X7_get wm_X7_45 (q0 := 0) rfl rfl rfl ⟨Nat.le_of_ble_eq_true rfl, Nat.le_of_ble_eq_true rfl⟩ ⟨Nat.zero_le _, Nat.zero_le _⟩ hl.1 rfl (Nat.le_of_ble_eq_true rfl) dX7_yaws_32 (fun H locs X => ?_)
      refine lv_istore_n (lv' := [(1, .int (n 11)), (0, .ref o)]) hx hb dX7_yaws_35 rfl hl (by decide) rfl (fun ls hl => ?_)
      refine lv_aload_n hx hb dX7_yaws_36 rfl (lv_at hl 1 rfl) ?_
      refine lv_iconst (v := 1) hx hb dX7_yaws_37 (by decide) ?_
      refine lv_iconst (v := 1) hx hb dX7_yaws_38 (by decide) ?_
      refine s_cV0i C hK hA X (c_X7_get l D ty o a b c_ g hs n 1 1 27 (by decide) (by decide)) [0, 1] (pk_c rfl (pk_c rfl pk_n)) rfl ml_X7_get wm_X7_45 (q0 := 0) rfl rfl rfl ⟨Nat.le_of_ble_eq_true rfl, Nat.le_of_ble_eq_true rfl⟩ ⟨Nat.zero_le _, Nat.zero_le _⟩ hl.1 rfl (Nat.le_of_ble_eq_true rfl) dX7_yaws_39 (fun H locs X => ?_)
      refine lv_istore_n (lv' := [(2, .int (n 27)), (1, .int (n 11)), (0, .ref o)]) hx hb dX7_yaws_42 rfl hl (by decide) rfl (fun ls hl => ?_)
      refine lv_aload_n hx hb dX7_yaws_43 rfl (lv_at hl 2 rfl) ?_
      refine lv_iconst (v := 0) hx hb dX7_yaws_44 (by decide) ?_
      refine lv_iconst (v := 1) hx hb dX7_yaws_45 (by decide) ?_
      refine lv_iload_n hx hb dX7_yaws_46 rfl (lv_at hl 1 rfl) ?_
      refine lv_iload_n hx hb dX7_yaws_47 rfl (lv_at hl 0 rfl) ?_
      refine lv_aload_n hx hb dX7_yaws_48 rfl (lv_at hl 2 rfl) ?_
      refine get_mo_0 C hK X 0 rfl fl_X7_7 dX7_yaws_49 ?_
      refine lv_bipush (v := 7) hx hb dX7_yaws_52 (by decide) ?_
      refine s_ialN C hK X 1 7 rfl rfl (by decide) (by decide) dX7_yaws_54 ?_
      refine lv_iadd hx hb dX7_yaws_55 ?_
      refine s_cS0i C hK hA X (c_X7_lesser l D ty (n 11) ((n 27) + (n 7))) [] pk_n rfl sl_X7_lesser wm_X7_73 ⟨Nat.le_of_ble_eq_true rfl, Nat.le_of_ble_eq_true rfl⟩ ⟨Nat.zero_le _, Nat.zero_le _⟩ hl.1 rfl (Nat.le_of_ble_eq_true rfl) dX7_yaws_56 (fun H locs X => ?_)
      refine s_cVv (ws' := [(o, moE g hs a b c_), (a, arE ty 253 (f_X7_sets_a n (f_X7_lesser (n 11) ((n 27) + (n 7))) 11))]) C hK hA X (c_X7_sets l D ty o a b c_ g hs n 0 1 (f_X7_lesser (n 11) ((n 27) + (n 7))) 11 (by decide) (by decide)) [0, 1] (pk_c rfl (pk_c rfl pk_n)) rfl (pk_c rfl (pk_c rfl pk_n)) (em_t (em_t em_n)) rfl ml_X7_sets wm_X7_59 (q0 := 0) rfl rfl rfl ⟨Nat.le_of_ble_eq_true rfl, Nat.le_of_ble_eq_true rfl⟩ ⟨Nat.zero_le _, Nat.zero_le _⟩ hl.1 rfl (Nat.le_of_ble_eq_true rfl) dX7_yaws_59 (fun H locs X => ?_)
      refine lv_aload_n hx hb dX7_yaws_62 rfl (lv_at hl 2 rfl) ?_
      refine lv_iconst (v := 1) hx hb dX7_yaws_63 (by decide) ?_
      refine lv_iconst (v := 1) hx hb dX7_yaws_64 (by decide) ?_
      refine lv_iload_n hx hb dX7_yaws_65 rfl (lv_at hl 0 rfl) ?_
      refine lv_iload_n hx hb dX7_yaws_66 rfl (lv_at hl 1 rfl) ?_
      refine lv_aload_n hx hb dX7_yaws_67 rfl (lv_at hl 2 rfl) ?_
      refine get_mo_0 C hK X 0 rfl fl_X7_7 dX7_yaws_68 ?_
      refine lv_bipush (v := 7) hx hb dX7_yaws_71 (by decide) ?_
      refine s_ialN C hK X 1 7 rfl rfl (by decide) (by decide) dX7_yaws_73 ?_
      refine lv_iadd hx hb dX7_yaws_74 ?_
      refine s_cS0i C hK hA X (c_X7_lesser l D ty (n 27) ((n 11) + ((f_X7_sets_a n (f_X7_lesser (n 11) ((n 27) + (n 7))) 11) 7))) [] pk_n rfl sl_X7_lesser wm_X7_73 ⟨Nat.le_of_ble_eq_true rfl, Nat.le_of_ble_eq_true rfl⟩ ⟨Nat.zero_le _, Nat.zero_le _⟩ hl.1 rfl (Nat.le_of_ble_eq_true rfl) dX7_yaws_75 (fun H locs X => ?_)
      refine s_cVv (ws' := [(o, moE g hs a b c_), (a, arE ty 253 (v_X7_yaws_3 n))]) C hK hA X (c_X7_sets l D ty o a b c_ g hs (f_X7_sets_a n (f_X7_lesser (n 11) ((n 27) + (n 7))) 11) 1 1 (f_X7_lesser (n 27) ((n 11) + ((f_X7_sets_a n (f_X7_lesser (n 11) ((n 27) + (n 7))) 11) 7))) 27 (by decide) (by decide)) [0, 1] (pk_c rfl (pk_c rfl pk_n)) rfl (pk_c rfl (pk_c rfl pk_n)) (em_t (em_t em_n)) rfl ml_X7_sets wm_X7_59 (q0 := 0) rfl rfl rfl ⟨Nat.le_of_ble_eq_true rfl, Nat.le_of_ble_eq_true rfl⟩ ⟨Nat.zero_le _, Nat.zero_le _⟩ hl.1 rfl (Nat.le_of_ble_eq_true rfl) dX7_yaws_78 (fun H locs X => ?_)
      refine lv_aload_n hx hb dX7_yaws_81 rfl (lv_at hl 2 rfl) ?_
      refine get_mo_0 C hK X 0 rfl fl_X7_7 dX7_yaws_82 ?_
      refine lv_bipush (v := 7) hx hb dX7_yaws_85 (by decide) ?_
      refine lv_sipush (v := 1000) hx hb dX7_yaws_87 (by decide) ?_
      refine lv_aload_n hx hb dX7_yaws_90 rfl (lv_at hl 2 rfl) ?_
      refine get_mo_0 C hK X 0 rfl fl_X7_7 dX7_yaws_91 ?_
      refine lv_bipush (v := 7) hx hb dX7_yaws_94 (by decide) ?_
      refine s_ialN C hK X 1 7 rfl rfl (by decide) (by decide) dX7_yaws_96 ?_
      refine lv_iconst (v := 4) hx hb dX7_yaws_97 (by decide) ?_
      refine lv_iadd hx hb dX7_yaws_98 ?_
      refine s_cS0i C hK hA X (c_X7_lesser l D ty 1000 (((v_X7_yaws_3 n) 7) + 4)) [] pk_n rfl sl_X7_lesser wm_X7_73 ⟨Nat.le_of_ble_eq_true rfl, Nat.le_of_ble_eq_true rfl⟩ ⟨Nat.zero_le _, Nat.zero_le _⟩ hl.1 rfl (Nat.le_of_ble_eq_true rfl) dX7_yaws_99 (fun H locs X => ?_)
      refine s_iasN C hK X 1 7 rfl rfl (by decide) (by decide) dX7_yaws_102 (fun H locs X => ?_)
      have X : Wd D A s.heap [(o, moE g hs a b c_), (a, arE ty 253 (upd (v_X7_yaws_3 n) 7 (f_X7_lesser 1000 (((v_X7_yaws_3 n) 7) + 4))))] H locs := X
      have e_1_0 : (f_X7_yaws_a n) = (upd (v_X7_yaws_3 n) 7 (f_X7_lesser 1000 (((v_X7_yaws_3 n) 7) + 4))) := by first | (rw [f_X7_yaws_a, if_pos c0_0, if_neg c1_1]; done) | (rw [f_X7_yaws_a, if_pos c0_0, if_neg c1_1]; rfl) | (simp only [f_X7_yaws_a, if_pos c0_0, if_neg c1_1]; done)
      exact hret _ _ _ _ _ dX7_yaws_103 X (by rw [e_1_0])
    · refine lv_aload_n hx hb dX7_yaws_18 rfl (lv_at hl 0 rfl) ?_
      refine get_mo_0 C hK X 0 rfl fl_X7_7 dX7_yaws_19 ?_
      refine lv_bipush (v := 7) hx hb dX7_yaws_22 (by decide) ?_
      refine lv_sipush (v := 150) hx hb dX7_yaws_24 (by decide) ?_
      refine s_iasN C hK X 1 7 rfl rfl (by decide) (by decide) dX7_yaws_27 (fun H locs X => ?_)
      have X : Wd D A s.heap [(o, moE g hs a b c_), (a, arE ty 253 (upd n 7 150))] H locs := X
      have e_1_0 : (f_X7_yaws_a n) = (upd n 7 150) := by first | (rw [f_X7_yaws_a, if_pos c0_0, if_pos c1_1]; done) | (rw [f_X7_yaws_a, if_pos c0_0, if_pos c1_1]; rfl) | (simp only [f_X7_yaws_a, if_pos c0_0, if_pos c1_1]; done)
      exact hret _ _ _ _ _ dX7_yaws_28 X (by rw [e_1_0])
def v_X7_controls_1 (n : F1) : F1 := (f_X7_refers_a (f_X7_measures_a (f_X7_measures_a (f_X7_measures_a (f_X7_measures_a n 0) 1) 2) 3))
theorem okm_X7_controls_2 (n : F1) (hM : MOK n) : MOK (v_X7_controls_1 n) := by
  exact (ok_X7_refers_a (f_X7_measures_a (f_X7_measures_a (f_X7_measures_a (f_X7_measures_a n 0) 1) 2) 3) (ok_X7_measures_a (f_X7_measures_a (f_X7_measures_a (f_X7_measures_a n 0) 1) 2) 3 (ok_X7_measures_a (f_X7_measures_a (f_X7_measures_a n 0) 1) 2 (ok_X7_measures_a (f_X7_measures_a n 0) 1 (ok_X7_measures_a n 0 hM (by decide)) (by decide)) (by decide)) (by decide)))
def v_X7_controls_3 (n : F1) : F1 := (f_X7_suspects_a (f_X7_suspects_a (f_X7_suspects_a (f_X7_suspects_a (v_X7_controls_1 n) 0) 1) 2) 3)
theorem okm_X7_controls_4 (n : F1) (hM : MOK n) : MOK (v_X7_controls_3 n) := by
  exact (ok_X7_suspects_a (f_X7_suspects_a (f_X7_suspects_a (f_X7_suspects_a (v_X7_controls_1 n) 0) 1) 2) 3 (ok_X7_suspects_a (f_X7_suspects_a (f_X7_suspects_a (v_X7_controls_1 n) 0) 1) 2 (ok_X7_suspects_a (f_X7_suspects_a (v_X7_controls_1 n) 0) 1 (ok_X7_suspects_a (v_X7_controls_1 n) 0 (okm_X7_controls_2 n hM) (by decide)) (by decide)) (by decide)) (by decide))
def v_X7_controls_5 (n : F1) : F1 := (f_X7_presses_a (f_X7_presses_a (f_X7_presses_a (f_X7_phases_a (v_X7_controls_3 n)) 0) 1) 2)
theorem okm_X7_controls_6 (n : F1) (hM : MOK n) : MOK (v_X7_controls_5 n) := by
  exact (ok_X7_presses_a (f_X7_presses_a (f_X7_presses_a (f_X7_phases_a (v_X7_controls_3 n)) 0) 1) 2 (ok_X7_presses_a (f_X7_presses_a (f_X7_phases_a (v_X7_controls_3 n)) 0) 1 (ok_X7_presses_a (f_X7_phases_a (v_X7_controls_3 n)) 0 (ok_X7_phases_a (v_X7_controls_3 n) (okm_X7_controls_4 n hM)) (by decide)) (by decide)) (by decide))
def v_X7_controls_7 (n : F1) : F1 := (upd (f_X7_yaws_a (f_X7_presses_a (v_X7_controls_5 n) 3)) 6 (((f_X7_yaws_a (f_X7_presses_a (v_X7_controls_5 n) 3)) 6) + 1))
theorem okm_X7_controls_8 (n : F1) (hM : MOK n) : MOK (v_X7_controls_7 n) := by
  exact (MOK_i (by decide) (ok_X7_yaws_a (f_X7_presses_a (v_X7_controls_5 n) 3) (ok_X7_presses_a (v_X7_controls_5 n) 3 (okm_X7_controls_6 n hM) (by decide))))
def f_X7_controls_a (n : F1) : F1 := (if ((f_X7_yaws_a (f_X7_presses_a (v_X7_controls_5 n) 3)) 5) ≤ 0 then (f_X7_yaws_a (f_X7_presses_a (v_X7_controls_5 n) 3)) else (upd (v_X7_controls_7 n) 5 (f_X7_greater 0 (((v_X7_controls_7 n) 5) - 20))))
theorem ok_X7_controls_a (n : F1) (hM : MOK n) : MOK (f_X7_controls_a n) := by
  by_cases k0 : ((f_X7_yaws_a (f_X7_presses_a (v_X7_controls_5 n) 3)) 5) ≤ 0
  · (try simp only [f_X7_controls_a, if_pos k0]); exact (ok_X7_yaws_a (f_X7_presses_a (v_X7_controls_5 n) 3) (ok_X7_presses_a (v_X7_controls_5 n) 3 (okm_X7_controls_6 n hM) (by decide)))
  · (try simp only [f_X7_controls_a, if_neg k0]); exact (MOK_i (by decide) (okm_X7_controls_8 n hM))
set_option maxHeartbeats 4000000 in
set_option maxRecDepth 100000 in
theorem c_X7_controls (l : Launch) (D : va_G) (ty : Nat → ClassId) (o : Nat) (a : Nat) (b : Nat) (c_ : Nat) (g : F1) (hs : Int64) (n : F1) (hM : MOK n) : MC l D ty yX7_controls cX7_controls 2 none 7 [.ref o] [(o, moE g hs a b c_), (a, arE ty 253 n)] none [(o, moE g hs a b c_), (a, arE ty 253 (f_X7_controls_a n))] := by
  refine mc_v (by decide +kernel) (Nat.le_of_ble_eq_true rfl) ?_
  intro p e s m args below meth c A Q ls C hK hA X hret hl
  have hx := C.1
  have hb := C.2.1
  have hl : lv_has ls 2 [(0, .ref o)] := hl
  have X : Wd D A s.heap [(o, moE g hs a b c_), (a, arE ty 253 n)] s.heap [] := X
  refine lv_iconst (v := 0) hx hb dX7_controls_0 (by decide) ?_
  refine lv_istore_n (lv' := [(1, .int 0), (0, .ref o)]) hx hb dX7_controls_1 rfl hl (by decide) rfl (fun ls hl => ?_)
  refine lv_iload_n hx hb dX7_controls_2 rfl (lv_at hl 0 rfl) ?_
  refine lv_iconst (v := 4) hx hb dX7_controls_3 (by decide) ?_
  refine lv_icmp_ge (tgt := 18) hx hb dX7_controls_4 (by decide) (fun c0 => absurd c0 (by decide)) (fun _ => ?_)
  refine lv_aload_n hx hb dX7_controls_7 rfl (lv_at hl 1 rfl) ?_
  refine lv_iload_n hx hb dX7_controls_8 rfl (lv_at hl 0 rfl) ?_
  refine s_cVv (ws' := [(o, moE g hs a b c_), (a, arE ty 253 (f_X7_measures_a n 0))]) C hK hA X (c_X7_measures l D ty o a b c_ g hs n 0 hM (by decide)) [0, 1] (pk_c rfl (pk_c rfl pk_n)) rfl (pk_c rfl (pk_c rfl pk_n)) (em_t (em_t em_n)) rfl ml_X7_measures wm_X7_112 (q0 := 0) rfl rfl rfl ⟨Nat.le_of_ble_eq_true rfl, Nat.le_of_ble_eq_true rfl⟩ ⟨Nat.zero_le _, Nat.zero_le _⟩ hl.1 rfl (Nat.le_of_ble_eq_true rfl) dX7_controls_9 (fun H locs X => ?_)
  refine lv_iinc (v := 1) (lv' := [(1, .int 1), (0, .ref o)]) hx hb dX7_controls_12 hl (k := 0) rfl (by decide) (by decide) rfl (fun ls hl => ?_)
  refine lv_goto (tgt := 2) hx hb dX7_controls_15 (by decide) ?_
  refine lv_iload_n hx hb dX7_controls_2 rfl (lv_at hl 0 rfl) ?_
  refine lv_iconst (v := 4) hx hb dX7_controls_3 (by decide) ?_
  refine lv_icmp_ge (tgt := 18) hx hb dX7_controls_4 (by decide) (fun c0 => absurd c0 (by decide)) (fun _ => ?_)
  refine lv_aload_n hx hb dX7_controls_7 rfl (lv_at hl 1 rfl) ?_
  refine lv_iload_n hx hb dX7_controls_8 rfl (lv_at hl 0 rfl) ?_
  refine s_cVv (ws' := [(o, moE g hs a b c_), (a, arE ty 253 (f_X7_measures_a (f_X7_measures_a n 0) 1))]) C hK hA X (c_X7_measures l D ty o a b c_ g hs (f_X7_measures_a n 0) 1 (ok_X7_measures_a n 0 hM (by decide)) (by decide)) [0, 1] (pk_c rfl (pk_c rfl pk_n)) rfl (pk_c rfl (pk_c rfl pk_n)) (em_t (em_t em_n)) rfl ml_X7_measures wm_X7_112 (q0 := 0) rfl rfl rfl ⟨Nat.le_of_ble_eq_true rfl, Nat.le_of_ble_eq_true rfl⟩ ⟨Nat.zero_le _, Nat.zero_le _⟩ hl.1 rfl (Nat.le_of_ble_eq_true rfl) dX7_controls_9 (fun H locs X => ?_)
  refine lv_iinc (v := 2) (lv' := [(1, .int 2), (0, .ref o)]) hx hb dX7_controls_12 hl (k := 0) rfl (by decide) (by decide) rfl (fun ls hl => ?_)
  refine lv_goto (tgt := 2) hx hb dX7_controls_15 (by decide) ?_
  refine lv_iload_n hx hb dX7_controls_2 rfl (lv_at hl 0 rfl) ?_
  refine lv_iconst (v := 4) hx hb dX7_controls_3 (by decide) ?_
  refine lv_icmp_ge (tgt := 18) hx hb dX7_controls_4 (by decide) (fun c0 => absurd c0 (by decide)) (fun _ => ?_)
  refine lv_aload_n hx hb dX7_controls_7 rfl (lv_at hl 1 rfl) ?_
  refine lv_iload_n hx hb dX7_controls_8 rfl (lv_at hl 0 rfl) ?_
  refine s_cVv (ws' := [(o, moE g hs a b c_), (a, arE ty 253 (f_X7_measures_a (f_X7_measures_a (f_X7_measures_a n 0) 1) 2))]) C hK hA X (c_X7_measures l D ty o a b c_ g hs (f_X7_measures_a (f_X7_measures_a n 0) 1) 2 (ok_X7_measures_a (f_X7_measures_a n 0) 1 (ok_X7_measures_a n 0 hM (by decide)) (by decide)) (by decide)) [0, 1] (pk_c rfl (pk_c rfl pk_n)) rfl (pk_c rfl (pk_c rfl pk_n)) (em_t (em_t em_n)) rfl ml_X7_measures wm_X7_112 (q0 := 0) rfl rfl rfl ⟨Nat.le_of_ble_eq_true rfl, Nat.le_of_ble_eq_true rfl⟩ ⟨Nat.zero_le _, Nat.zero_le _⟩ hl.1 rfl (Nat.le_of_ble_eq_true rfl) dX7_controls_9 (fun H locs X => ?_)
  refine lv_iinc (v := 3) (lv' := [(1, .int 3), (0, .ref o)]) hx hb dX7_controls_12 hl (k := 0) rfl (by decide) (by decide) rfl (fun ls hl => ?_)
  refine lv_goto (tgt := 2) hx hb dX7_controls_15 (by decide) ?_
  refine lv_iload_n hx hb dX7_controls_2 rfl (lv_at hl 0 rfl) ?_
  refine lv_iconst (v := 4) hx hb dX7_controls_3 (by decide) ?_
  refine lv_icmp_ge (tgt := 18) hx hb dX7_controls_4 (by decide) (fun c0 => absurd c0 (by decide)) (fun _ => ?_)
  refine lv_aload_n hx hb dX7_controls_7 rfl (lv_at hl 1 rfl) ?_
  refine lv_iload_n hx hb dX7_controls_8 rfl (lv_at hl 0 rfl) ?_
  refine s_cVv (ws' := [(o, moE g hs a b c_), (a, arE ty 253 (f_X7_measures_a (f_X7_measures_a (f_X7_measures_a (f_X7_measures_a n 0) 1) 2) 3))]) C hK hA X (c_X7_measures l D ty o a b c_ g hs (f_X7_measures_a (f_X7_measures_a (f_X7_measures_a n 0) 1) 2) 3 (ok_X7_measures_a (f_X7_measures_a (f_X7_measures_a n 0) 1) 2 (ok_X7_measures_a (f_X7_measures_a n 0) 1 (ok_X7_measures_a n 0 hM (by decide)) (by decide)) (by decide)) (by decide)) [0, 1] (pk_c rfl (pk_c rfl pk_n)) rfl (pk_c rfl (pk_c rfl pk_n)) (em_t (em_t em_n)) rfl ml_X7_measures wm_X7_112 (q0 := 0) rfl rfl rfl ⟨Nat.le_of_ble_eq_true rfl, Nat.le_of_ble_eq_true rfl⟩ ⟨Nat.zero_le _, Nat.zero_le _⟩ hl.1 rfl (Nat.le_of_ble_eq_true rfl) dX7_controls_9 (fun H locs X => ?_)
  refine lv_iinc (v := 4) (lv' := [(1, .int 4), (0, .ref o)]) hx hb dX7_controls_12 hl (k := 0) rfl (by decide) (by decide) rfl (fun ls hl => ?_)
  refine lv_goto (tgt := 2) hx hb dX7_controls_15 (by decide) ?_
  refine lv_iload_n hx hb dX7_controls_2 rfl (lv_at hl 0 rfl) ?_
  refine lv_iconst (v := 4) hx hb dX7_controls_3 (by decide) ?_
  refine lv_icmp_ge (tgt := 18) hx hb dX7_controls_4 (by decide) (fun _ => ?_) (fun c0 => absurd (by decide) c0)
  refine lv_aload_n hx hb dX7_controls_18 rfl (lv_at hl 1 rfl) ?_
  refine s_cVv (ws' := [(o, moE g hs a b c_), (a, arE ty 253 (v_X7_controls_1 n))]) C hK hA X (c_X7_refers l D ty o a b c_ g hs (f_X7_measures_a (f_X7_measures_a (f_X7_measures_a (f_X7_measures_a n 0) 1) 2) 3) (ok_X7_measures_a (f_X7_measures_a (f_X7_measures_a (f_X7_measures_a n 0) 1) 2) 3 (ok_X7_measures_a (f_X7_measures_a (f_X7_measures_a n 0) 1) 2 (ok_X7_measures_a (f_X7_measures_a n 0) 1 (ok_X7_measures_a n 0 hM (by decide)) (by decide)) (by decide)) (by decide))) [0, 1] (pk_c rfl (pk_c rfl pk_n)) rfl (pk_c rfl (pk_c rfl pk_n)) (em_t (em_t em_n)) rfl ml_X7_refers wm_X7_115 (q0 := 0) rfl rfl rfl ⟨Nat.le_of_ble_eq_true rfl, Nat.le_of_ble_eq_true rfl⟩ ⟨Nat.zero_le _, Nat.zero_le _⟩ hl.1 rfl (Nat.le_of_ble_eq_true rfl) dX7_controls_19 (fun H locs X => ?_)
  refine lv_iconst (v := 0) hx hb dX7_controls_22 (by decide) ?_
  refine lv_istore_n (lv' := [(1, .int 0), (0, .ref o)]) hx hb dX7_controls_23 rfl hl (by decide) rfl (fun ls hl => ?_)
  refine lv_iload_n hx hb dX7_controls_24 rfl (lv_at hl 0 rfl) ?_
  refine lv_iconst (v := 4) hx hb dX7_controls_25 (by decide) ?_
  refine lv_icmp_ge (tgt := 40) hx hb dX7_controls_26 (by decide) (fun c0 => absurd c0 (by decide)) (fun _ => ?_)
  refine lv_aload_n hx hb dX7_controls_29 rfl (lv_at hl 1 rfl) ?_
  refine lv_iload_n hx hb dX7_controls_30 rfl (lv_at hl 0 rfl) ?_
  refine s_cVv (ws' := [(o, moE g hs a b c_), (a, arE ty 253 (f_X7_suspects_a (v_X7_controls_1 n) 0))]) C hK hA X (c_X7_suspects l D ty o a b c_ g hs (v_X7_controls_1 n) 0 (okm_X7_controls_2 n hM) (by decide)) [0, 1] (pk_c rfl (pk_c rfl pk_n)) rfl (pk_c rfl (pk_c rfl pk_n)) (em_t (em_t em_n)) rfl ml_X7_suspects wm_X7_118 (q0 := 0) rfl rfl rfl ⟨Nat.le_of_ble_eq_true rfl, Nat.le_of_ble_eq_true rfl⟩ ⟨Nat.zero_le _, Nat.zero_le _⟩ hl.1 rfl (Nat.le_of_ble_eq_true rfl) dX7_controls_31 (fun H locs X => ?_)
  refine lv_iinc (v := 1) (lv' := [(1, .int 1), (0, .ref o)]) hx hb dX7_controls_34 hl (k := 0) rfl (by decide) (by decide) rfl (fun ls hl => ?_)
  refine lv_goto (tgt := 24) hx hb dX7_controls_37 (by decide) ?_
  refine lv_iload_n hx hb dX7_controls_24 rfl (lv_at hl 0 rfl) ?_
  refine lv_iconst (v := 4) hx hb dX7_controls_25 (by decide) ?_
  refine lv_icmp_ge (tgt := 40) hx hb dX7_controls_26 (by decide) (fun c0 => absurd c0 (by decide)) (fun _ => ?_)
  refine lv_aload_n hx hb dX7_controls_29 rfl (lv_at hl 1 rfl) ?_
  refine lv_iload_n hx hb dX7_controls_30 rfl (lv_at hl 0 rfl) ?_
  refine s_cVv (ws' := [(o, moE g hs a b c_), (a, arE ty 253 (f_X7_suspects_a (f_X7_suspects_a (v_X7_controls_1 n) 0) 1))]) C hK hA X (c_X7_suspects l D ty o a b c_ g hs (f_X7_suspects_a (v_X7_controls_1 n) 0) 1 (ok_X7_suspects_a (v_X7_controls_1 n) 0 (okm_X7_controls_2 n hM) (by decide)) (by decide)) [0, 1] (pk_c rfl (pk_c rfl pk_n)) rfl (pk_c rfl (pk_c rfl pk_n)) (em_t (em_t em_n)) rfl ml_X7_suspects wm_X7_118 (q0 := 0) rfl rfl rfl ⟨Nat.le_of_ble_eq_true rfl, Nat.le_of_ble_eq_true rfl⟩ ⟨Nat.zero_le _, Nat.zero_le _⟩ hl.1 rfl (Nat.le_of_ble_eq_true rfl) dX7_controls_31 (fun H locs X => ?_)
  refine lv_iinc (v := 2) (lv' := [(1, .int 2), (0, .ref o)]) hx hb dX7_controls_34 hl (k := 0) rfl (by decide) (by decide) rfl (fun ls hl => ?_)
  refine lv_goto (tgt := 24) hx hb dX7_controls_37 (by decide) ?_
  refine lv_iload_n hx hb dX7_controls_24 rfl (lv_at hl 0 rfl) ?_
  refine lv_iconst (v := 4) hx hb dX7_controls_25 (by decide) ?_
  refine lv_icmp_ge (tgt := 40) hx hb dX7_controls_26 (by decide) (fun c0 => absurd c0 (by decide)) (fun _ => ?_)
  refine lv_aload_n hx hb dX7_controls_29 rfl (lv_at hl 1 rfl) ?_
  refine lv_iload_n hx hb dX7_controls_30 rfl (lv_at hl 0 rfl) ?_
  refine s_cVv (ws' := [(o, moE g hs a b c_), (a, arE ty 253 (f_X7_suspects_a (f_X7_suspects_a (f_X7_suspects_a (v_X7_controls_1 n) 0) 1) 2))]) C hK hA X (c_X7_suspects l D ty o a b c_ g hs (f_X7_suspects_a (f_X7_suspects_a (v_X7_controls_1 n) 0) 1) 2 (ok_X7_suspects_a (f_X7_suspects_a (v_X7_controls_1 n) 0) 1 (ok_X7_suspects_a (v_X7_controls_1 n) 0 (okm_X7_controls_2 n hM) (by decide)) (by decide)) (by decide)) [0, 1] (pk_c rfl (pk_c rfl pk_n)) rfl (pk_c rfl (pk_c rfl pk_n)) (em_t (em_t em_n)) rfl ml_X7_suspects wm_X7_118 (q0 := 0) rfl rfl rfl ⟨Nat.le_of_ble_eq_true rfl, Nat.le_of_ble_eq_true rfl⟩ ⟨Nat.zero_le _, Nat.zero_le _⟩ hl.1 rfl (Nat.le_of_ble_eq_true rfl) dX7_controls_31 (fun H locs X => ?_)
  refine lv_iinc (v := 3) (lv' := [(1, .int 3), (0, .ref o)]) hx hb dX7_controls_34 hl (k := 0) rfl (by decide) (by decide) rfl (fun ls hl => ?_)
  refine lv_goto (tgt := 24) hx hb dX7_controls_37 (by decide) ?_
  refine lv_iload_n hx hb dX7_controls_24 rfl (lv_at hl 0 rfl) ?_
  refine lv_iconst (v := 4) hx hb dX7_controls_25 (by decide) ?_
  refine lv_icmp_ge (tgt := 40) hx hb dX7_controls_26 (by decide) (fun c0 => absurd c0 (by decide)) (fun _ => ?_)
  refine lv_aload_n hx hb dX7_controls_29 rfl (lv_at hl 1 rfl) ?_
  refine lv_iload_n hx hb dX7_controls_30 rfl (lv_at hl 0 rfl) ?_
  refine s_cVv (ws' := [(o, moE g hs a b c_), (a, arE ty 253 (v_X7_controls_3 n))]) C hK hA X (c_X7_suspects l D ty o a b c_ g hs (f_X7_suspects_a (f_X7_suspects_a (f_X7_suspects_a (v_X7_controls_1 n) 0) 1) 2) 3 (ok_X7_suspects_a (f_X7_suspects_a (f_X7_suspects_a (v_X7_controls_1 n) 0) 1) 2 (ok_X7_suspects_a (f_X7_suspects_a (v_X7_controls_1 n) 0) 1 (ok_X7_suspects_a (v_X7_controls_1 n) 0 (okm_X7_controls_2 n hM) (by decide)) (by decide)) (by decide)) (by decide)) [0, 1] (pk_c rfl (pk_c rfl pk_n)) rfl (pk_c rfl (pk_c rfl pk_n)) (em_t (em_t em_n)) rfl ml_X7_suspects wm_X7_118 (q0 := 0) rfl rfl rfl ⟨Nat.le_of_ble_eq_true rfl, Nat.le_of_ble_eq_true rfl⟩ ⟨Nat.zero_le _, Nat.zero_le _⟩ hl.1 rfl (Nat.le_of_ble_eq_true rfl) dX7_controls_31 (fun H locs X => ?_)
  refine lv_iinc (v := 4) (lv' := [(1, .int 4), (0, .ref o)]) hx hb dX7_controls_34 hl (k := 0) rfl (by decide) (by decide) rfl (fun ls hl => ?_)
  refine lv_goto (tgt := 24) hx hb dX7_controls_37 (by decide) ?_
  refine lv_iload_n hx hb dX7_controls_24 rfl (lv_at hl 0 rfl) ?_
  refine lv_iconst (v := 4) hx hb dX7_controls_25 (by decide) ?_
  refine lv_icmp_ge (tgt := 40) hx hb dX7_controls_26 (by decide) (fun _ => ?_) (fun c0 => absurd (by decide) c0)
  refine lv_aload_n hx hb dX7_controls_40 rfl (lv_at hl 1 rfl) ?_
  refine s_cVv (ws' := [(o, moE g hs a b c_), (a, arE ty 253 (f_X7_phases_a (v_X7_controls_3 n)))]) C hK hA X (c_X7_phases l D ty o a b c_ g hs (v_X7_controls_3 n) (okm_X7_controls_4 n hM)) [0, 1] (pk_c rfl (pk_c rfl pk_n)) rfl (pk_c rfl (pk_c rfl pk_n)) (em_t (em_t em_n)) rfl ml_X7_phases wm_X7_121 (q0 := 0) rfl rfl rfl ⟨Nat.le_of_ble_eq_true rfl, Nat.le_of_ble_eq_true rfl⟩ ⟨Nat.zero_le _, Nat.zero_le _⟩ hl.1 rfl (Nat.le_of_ble_eq_true rfl) dX7_controls_41 (fun H locs X => ?_)
  refine lv_iconst (v := 0) hx hb dX7_controls_44 (by decide) ?_
  refine lv_istore_n (lv' := [(1, .int 0), (0, .ref o)]) hx hb dX7_controls_45 rfl hl (by decide) rfl (fun ls hl => ?_)
  refine lv_iload_n hx hb dX7_controls_46 rfl (lv_at hl 0 rfl) ?_
  refine lv_iconst (v := 4) hx hb dX7_controls_47 (by decide) ?_
  refine lv_icmp_ge (tgt := 62) hx hb dX7_controls_48 (by decide) (fun c0 => absurd c0 (by decide)) (fun _ => ?_)
  refine lv_aload_n hx hb dX7_controls_51 rfl (lv_at hl 1 rfl) ?_
  refine lv_iload_n hx hb dX7_controls_52 rfl (lv_at hl 0 rfl) ?_
  refine s_cVv (ws' := [(o, moE g hs a b c_), (a, arE ty 253 (f_X7_presses_a (f_X7_phases_a (v_X7_controls_3 n)) 0))]) C hK hA X (c_X7_presses l D ty o a b c_ g hs (f_X7_phases_a (v_X7_controls_3 n)) 0 (ok_X7_phases_a (v_X7_controls_3 n) (okm_X7_controls_4 n hM)) (by decide)) [0, 1] (pk_c rfl (pk_c rfl pk_n)) rfl (pk_c rfl (pk_c rfl pk_n)) (em_t (em_t em_n)) rfl ml_X7_presses wm_X7_124 (q0 := 0) rfl rfl rfl ⟨Nat.le_of_ble_eq_true rfl, Nat.le_of_ble_eq_true rfl⟩ ⟨Nat.zero_le _, Nat.zero_le _⟩ hl.1 rfl (Nat.le_of_ble_eq_true rfl) dX7_controls_53 (fun H locs X => ?_)
  refine lv_iinc (v := 1) (lv' := [(1, .int 1), (0, .ref o)]) hx hb dX7_controls_56 hl (k := 0) rfl (by decide) (by decide) rfl (fun ls hl => ?_)
  refine lv_goto (tgt := 46) hx hb dX7_controls_59 (by decide) ?_
  refine lv_iload_n hx hb dX7_controls_46 rfl (lv_at hl 0 rfl) ?_
  refine lv_iconst (v := 4) hx hb dX7_controls_47 (by decide) ?_
  refine lv_icmp_ge (tgt := 62) hx hb dX7_controls_48 (by decide) (fun c0 => absurd c0 (by decide)) (fun _ => ?_)
  refine lv_aload_n hx hb dX7_controls_51 rfl (lv_at hl 1 rfl) ?_
  refine lv_iload_n hx hb dX7_controls_52 rfl (lv_at hl 0 rfl) ?_
  refine s_cVv (ws' := [(o, moE g hs a b c_), (a, arE ty 253 (f_X7_presses_a (f_X7_presses_a (f_X7_phases_a (v_X7_controls_3 n)) 0) 1))]) C hK hA X (c_X7_presses l D ty o a b c_ g hs (f_X7_presses_a (f_X7_phases_a (v_X7_controls_3 n)) 0) 1 (ok_X7_presses_a (f_X7_phases_a (v_X7_controls_3 n)) 0 (ok_X7_phases_a (v_X7_controls_3 n) (okm_X7_controls_4 n hM)) (by decide)) (by decide)) [0, 1] (pk_c rfl (pk_c rfl pk_n)) rfl (pk_c rfl (pk_c rfl pk_n)) (em_t (em_t em_n)) rfl ml_X7_presses wm_X7_124 (q0 := 0) rfl rfl rfl ⟨Nat.le_of_ble_eq_true rfl, Nat.le_of_ble_eq_true rfl⟩ ⟨Nat.zero_le _, Nat.zero_le _⟩ hl.1 rfl (Nat.le_of_ble_eq_true rfl) dX7_controls_53 (fun H locs X => ?_)
  refine lv_iinc (v := 2) (lv' := [(1, .int 2), (0, .ref o)]) hx hb dX7_controls_56 hl (k := 0) rfl (by decide) (by decide) rfl (fun ls hl => ?_)
  refine lv_goto (tgt := 46) hx hb dX7_controls_59 (by decide) ?_
  refine lv_iload_n hx hb dX7_controls_46 rfl (lv_at hl 0 rfl) ?_
  refine lv_iconst (v := 4) hx hb dX7_controls_47 (by decide) ?_
  refine lv_icmp_ge (tgt := 62) hx hb dX7_controls_48 (by decide) (fun c0 => absurd c0 (by decide)) (fun _ => ?_)
  refine lv_aload_n hx hb dX7_controls_51 rfl (lv_at hl 1 rfl) ?_
  refine lv_iload_n hx hb dX7_controls_52 rfl (lv_at hl 0 rfl) ?_
  refine s_cVv (ws' := [(o, moE g hs a b c_), (a, arE ty 253 (v_X7_controls_5 n))]) C hK hA X (c_X7_presses l D ty o a b c_ g hs (f_X7_presses_a (f_X7_presses_a (f_X7_phases_a (v_X7_controls_3 n)) 0) 1) 2 (ok_X7_presses_a (f_X7_presses_a (f_X7_phases_a (v_X7_controls_3 n)) 0) 1 (ok_X7_presses_a (f_X7_phases_a (v_X7_controls_3 n)) 0 (ok_X7_phases_a (v_X7_controls_3 n) (okm_X7_controls_4 n hM)) (by decide)) (by decide)) (by decide)) [0, 1] (pk_c rfl (pk_c rfl pk_n)) rfl (pk_c rfl (pk_c rfl pk_n)) (em_t (em_t em_n)) rfl ml_X7_presses wm_X7_124 (q0 := 0) rfl rfl rfl ⟨Nat.le_of_ble_eq_true rfl, Nat.le_of_ble_eq_true rfl⟩ ⟨Nat.zero_le _, Nat.zero_le _⟩ hl.1 rfl (Nat.le_of_ble_eq_true rfl) dX7_controls_53 (fun H locs X => ?_)
  refine lv_iinc (v := 3) (lv' := [(1, .int 3), (0, .ref o)]) hx hb dX7_controls_56 hl (k := 0) rfl (by decide) (by decide) rfl (fun ls hl => ?_)
  refine lv_goto (tgt := 46) hx hb dX7_controls_59 (by decide) ?_
  refine lv_iload_n hx hb dX7_controls_46 rfl (lv_at hl 0 rfl) ?_
  refine lv_iconst (v := 4) hx hb dX7_controls_47 (by decide) ?_
  refine lv_icmp_ge (tgt := 62) hx hb dX7_controls_48 (by decide) (fun c0 => absurd c0 (by decide)) (fun _ => ?_)
  refine lv_aload_n hx hb dX7_controls_51 rfl (lv_at hl 1 rfl) ?_
  refine lv_iload_n hx hb dX7_controls_52 rfl (lv_at hl 0 rfl) ?_
  refine s_cVv (ws' := [(o, moE g hs a b c_), (a, arE ty 253 (f_X7_presses_a (v_X7_controls_5 n) 3))]) C hK hA X (c_X7_presses l D ty o a b c_ g hs (v_X7_controls_5 n) 3 (okm_X7_controls_6 n hM) (by decide)) [0, 1] (pk_c rfl (pk_c rfl pk_n)) rfl (pk_c rfl (pk_c rfl pk_n)) (em_t (em_t em_n)) rfl ml_X7_presses wm_X7_124 (q0 := 0) rfl rfl rfl ⟨Nat.le_of_ble_eq_true rfl, Nat.le_of_ble_eq_true rfl⟩ ⟨Nat.zero_le _, Nat.zero_le _⟩ hl.1 rfl (Nat.le_of_ble_eq_true rfl) dX7_controls_53 (fun H locs X => ?_)
  refine lv_iinc (v := 4) (lv' := [(1, .int 4), (0, .ref o)]) hx hb dX7_controls_56 hl (k := 0) rfl (by decide) (by decide) rfl (fun ls hl => ?_)
  refine lv_goto (tgt := 46) hx hb dX7_controls_59 (by decide) ?_
  refine lv_iload_n hx hb dX7_controls_46 rfl (lv_at hl 0 rfl) ?_
  refine lv_iconst (v := 4) hx hb dX7_controls_47 (by decide) ?_
  refine lv_icmp_ge (tgt := 62) hx hb dX7_controls_48 (by decide) (fun _ => ?_) (fun c0 => absurd (by decide) c0)
  refine lv_aload_n hx hb dX7_controls_62 rfl (lv_at hl 1 rfl) ?_
  refine s_cVv (ws' := [(o, moE g hs a b c_), (a, arE ty 253 (f_X7_yaws_a (f_X7_presses_a (v_X7_controls_5 n) 3)))]) C hK hA X (c_X7_yaws l D ty o a b c_ g hs (f_X7_presses_a (v_X7_controls_5 n) 3) (ok_X7_presses_a (v_X7_controls_5 n) 3 (okm_X7_controls_6 n hM) (by decide))) [0, 1] (pk_c rfl (pk_c rfl pk_n)) rfl (pk_c rfl (pk_c rfl pk_n)) (em_t (em_t em_n)) rfl ml_X7_yaws wm_X7_127 (q0 := 0) rfl rfl rfl ⟨Nat.le_of_ble_eq_true rfl, Nat.le_of_ble_eq_true rfl⟩ ⟨Nat.zero_le _, Nat.zero_le _⟩ hl.1 rfl (Nat.le_of_ble_eq_true rfl) dX7_controls_63 (fun H locs X => ?_)
  refine lv_aload_n hx hb dX7_controls_66 rfl (lv_at hl 1 rfl) ?_
  refine get_mo_0 C hK X 0 rfl fl_X7_7 dX7_controls_67 ?_
  refine lv_iconst (v := 5) hx hb dX7_controls_70 (by decide) ?_
  refine s_ialN C hK X 1 5 rfl rfl (by decide) (by decide) dX7_controls_71 ?_
  refine lv_if_le (tgt := 105) hx hb dX7_controls_72 (by decide) (fun c0_0 => ?_) (fun c0_0 => ?_)
  · have e_1_0 : (f_X7_controls_a n) = (f_X7_yaws_a (f_X7_presses_a (v_X7_controls_5 n) 3)) := by first | (rw [f_X7_controls_a, if_pos c0_0]; done) | (rw [f_X7_controls_a, if_pos c0_0]; rfl) | (simp only [f_X7_controls_a, if_pos c0_0]; done)
    exact hret _ _ _ _ _ dX7_controls_105 X (by rw [e_1_0])
  · refine lv_aload_n hx hb dX7_controls_75 rfl (lv_at hl 1 rfl) ?_
    refine get_mo_0 C hK X 0 rfl fl_X7_7 dX7_controls_76 ?_
    refine lv_bipush (v := 6) hx hb dX7_controls_79 (by decide) ?_
    refine lv_dup2_11 hx hb dX7_controls_81 rfl rfl ?_
    refine s_ialN C hK X 1 6 rfl rfl (by decide) (by decide) dX7_controls_82 ?_
    refine lv_iconst (v := 1) hx hb dX7_controls_83 (by decide) ?_
    refine lv_iadd hx hb dX7_controls_84 ?_
    refine s_iasN C hK X 1 6 rfl rfl (by decide) (by decide) dX7_controls_85 (fun H locs X => ?_)
    have X : Wd D A s.heap [(o, moE g hs a b c_), (a, arE ty 253 (v_X7_controls_7 n))] H locs := X
    refine lv_aload_n hx hb dX7_controls_86 rfl (lv_at hl 1 rfl) ?_
    refine get_mo_0 C hK X 0 rfl fl_X7_7 dX7_controls_87 ?_
    refine lv_iconst (v := 5) hx hb dX7_controls_90 (by decide) ?_
    refine lv_iconst (v := 0) hx hb dX7_controls_91 (by decide) ?_
    refine lv_aload_n hx hb dX7_controls_92 rfl (lv_at hl 1 rfl) ?_
    refine get_mo_0 C hK X 0 rfl fl_X7_7 dX7_controls_93 ?_
    refine lv_iconst (v := 5) hx hb dX7_controls_96 (by decide) ?_
    refine s_ialN C hK X 1 5 rfl rfl (by decide) (by decide) dX7_controls_97 ?_
    refine lv_bipush (v := 20) hx hb dX7_controls_98 (by decide) ?_
    refine lv_isub hx hb dX7_controls_100 ?_
    refine s_cS0i C hK hA X (c_X7_greater l D ty 0 (((v_X7_controls_7 n) 5) - 20)) [] pk_n rfl sl_X7_greater wm_X7_70 ⟨Nat.le_of_ble_eq_true rfl, Nat.le_of_ble_eq_true rfl⟩ ⟨Nat.zero_le _, Nat.zero_le _⟩ hl.1 rfl (Nat.le_of_ble_eq_true rfl) dX7_controls_101 (fun H locs X => ?_)
    refine s_iasN C hK X 1 5 rfl rfl (by decide) (by decide) dX7_controls_104 (fun H locs X => ?_)
    have X : Wd D A s.heap [(o, moE g hs a b c_), (a, arE ty 253 (upd (v_X7_controls_7 n) 5 (f_X7_greater 0 (((v_X7_controls_7 n) 5) - 20))))] H locs := X
    have e_1_0 : (f_X7_controls_a n) = (upd (v_X7_controls_7 n) 5 (f_X7_greater 0 (((v_X7_controls_7 n) 5) - 20))) := by first | (rw [f_X7_controls_a, if_neg c0_0]; done) | (rw [f_X7_controls_a, if_neg c0_0]; rfl) | (simp only [f_X7_controls_a, if_neg c0_0]; done)
    exact hret _ _ _ _ _ dX7_controls_105 X (by rw [e_1_0])
