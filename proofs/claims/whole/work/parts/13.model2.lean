theorem lin (c b i : Nat) : nI b + nI c * nI i = nI (b + c * i) := by rw [pk_mul, nI_add]
theorem cpy_lo {f g : F1} {sp dp i q : Nat} (h : q < dp) : va_cpy f g sp dp i q = g q := by unfold va_cpy; rw [if_neg (by omega)]
theorem cpy_hi {f g : F1} {sp dp i q : Nat} (h : dp + i ≤ q) : va_cpy f g sp dp i q = g q := by unfold va_cpy; rw [if_neg (by omega)]
/-- the present segment, as the reference finds it -/
def prI (n : F1) : Nat → Nat
  | 0 => 0
  | i + 1 => if n 1 < n (75 + 3 * i) then prI n i else i
theorem prI_lt (n : F1) : ∀ k, 1 ≤ k → prI n k < k
  | 0, h => by omega
  | 1, _ => by show (if n 1 < n (75 + 3 * 0) then prI n 0 else 0) < 1; split <;> first | decide | (show 0 < 1; decide)
  | k + 2, _ => by
    show (if n 1 < n (75 + 3 * (k + 1)) then prI n (k + 1) else k + 1) < k + 2
    have := prI_lt n (k + 1) (by omega)
    split <;> omega
def v_X7_present_2 (n : F1) (i : Nat) : Int32 := (if (n 1) < (n (75 + 3 * i)) then (nI (prI n i)) else (nI i))
theorem present_step (n : F1) (i : Nat) : v_X7_present_2 n i = nI (prI n (i + 1)) := by
  unfold v_X7_present_2
  show _ = nI (if n 1 < n (75 + 3 * i) then prI n i else i)
  split <;> rfl
set_option maxHeartbeats 4000000 in
set_option maxRecDepth 100000 in
theorem c_X7_present (l : Launch) (D : va_G) (ty : Nat → ClassId) (o : Nat) (a : Nat) (b : Nat) (c_ : Nat) (g : F1) (hs : Int64) (n : F1) (hM : MOK n) : MC l D ty yX7_present cX7_present 3 (some .int) 0 [.ref o] [(o, moE g hs a b c_), (a, arE ty 253 n)] (some (.int (nI (prI n (sN n))))) [(o, moE g hs a b c_), (a, arE ty 253 n)] := by
  refine mc_i (by decide +kernel) (Nat.le_of_ble_eq_true rfl) ?_
  intro p e s m args below meth c A Q ls C hK hA X hret hl
  have hx := C.1
  have hb := C.2.1
  have hl : lv_has ls 3 [(0, .ref o)] := hl
  have X : Wd D A s.heap [(o, moE g hs a b c_), (a, arE ty 253 n)] s.heap [] := X
  obtain ⟨hn, hs1, hs2⟩ := sN_eq hM
  refine lv_iconst (v := 0) hx hb dX7_present_0 (by decide) ?_
  refine lv_istore_n (lv' := [(1, .int 0), (0, .ref o)]) hx hb dX7_present_1 rfl hl (by decide) rfl (fun ls hl => ?_)
  refine lv_iconst (v := 0) hx hb dX7_present_2 (by decide) ?_
  refine lv_istore_n (lv' := [(2, .int 0), (1, .int 0), (0, .ref o)]) hx hb dX7_present_3 rfl hl (by decide) rfl (fun ls hl => ?_)
  have K1 : ∀ (y1_0 : Int32) (y1_1 : Int32) (ls : Array Slot) (H : Heap) (locs : List Loc), y1_0 = (nI (sN n)) → y1_1 = (nI (prI n (sN n))) → lv_has ls 3 [(2, .int y1_0), (1, .int y1_1), (0, .ref o)] → Wd D A s.heap [(o, moE g hs a b c_), (a, arE ty 253 n)] H locs → W p l e (rmD 0) s m args below meth c H locs 0 0 Q (F0 m 47 ls []) := by
    intro y1_0 y1_1 ls H locs ey1_0 ey1_1 hl X
    subst ey1_0; subst ey1_1
    refine lv_iload_n hx hb dX7_present_47 rfl (lv_at hl 1 rfl) ?_
    exact hret _ _ _ _ _ _ dX7_present_48 X rfl rfl
  have L1 : ∀ (kf i : Nat) (y1_0 : Int32) (y1_1 : Int32) (ls : Array Slot) (H : Heap) (locs : List Loc), (sN n) - i < kf → (i ≤ (sN n)) → y1_0 = (nI i) → y1_1 = (nI (prI n i)) → lv_has ls 3 [(2, .int y1_0), (1, .int y1_1), (0, .ref o)] → Wd D A s.heap [(o, moE g hs a b c_), (a, arE ty 253 n)] H locs → W p l e (rmD 0) s m args below meth c H locs 0 0 Q (F0 m 4 ls []) := by
    intro kf
    induction kf with
    | zero => intro i y1_0 y1_1 ls H locs hk; exact absurd hk (Nat.not_lt_zero _)
    | succ kf ih1 =>
      intro i y1_0 y1_1 ls H locs hk hI ey1_0 ey1_1 hl X
      subst ey1_0; subst ey1_1
      refine lv_iload_n hx hb dX7_present_4 rfl (lv_at hl 0 rfl) ?_
      refine lv_aload_n hx hb dX7_present_5 rfl (lv_at hl 2 rfl) ?_
      refine get_mo_0 C hK X 0 rfl fl_X7_7 dX7_present_6 ?_
      refine lv_bipush (v := 74) hx hb dX7_present_9 (by decide) ?_
      refine s_ialN C hK X 1 74 rfl rfl (by decide) (by decide) dX7_present_11 ?_
      refine s_eqi (y := nI (sN n)) (hn) ?_
      refine lv_icmp_ge (tgt := 47) hx hb dX7_present_12 (by decide) (fun c0_0 => ?_) (fun c0_0 => ?_)
      · have hE : i = sN n := eq_of_nIle (by omega) (by omega) hI c0_0
        exact K1 (nI i) (nI (prI n i)) _ _ _ (by rw [hE]) (by rw [hE]) (lv_sub hl [0, 1, 2] rfl) X
      · have h1 : i < sN n := lt_of_nnIle (by omega) (by omega) c0_0
        refine lv_aload_n hx hb dX7_present_15 rfl (lv_at hl 2 rfl) ?_
        refine get_mo_0 C hK X 0 rfl fl_X7_7 dX7_present_16 ?_
        refine lv_bipush (v := 75) hx hb dX7_present_19 (by decide) ?_
        refine lv_iconst (v := 3) hx hb dX7_present_21 (by decide) ?_
        refine lv_iload_n hx hb dX7_present_22 rfl (lv_at hl 0 rfl) ?_
        refine lv_imul hx hb dX7_present_23 ?_
        refine lv_iadd hx hb dX7_present_24 ?_
        refine s_eqi (y := nI (75 + 3 * i)) (lin 3 75 i) ?_
        refine s_ialN C hK X 1 (75 + 3 * i) rfl rfl (by omega) (by decide) dX7_present_25 ?_
        refine lv_aload_n hx hb dX7_present_26 rfl (lv_at hl 2 rfl) ?_
        refine get_mo_0 C hK X 0 rfl fl_X7_7 dX7_present_27 ?_
        refine lv_iconst (v := 1) hx hb dX7_present_30 (by decide) ?_
        refine s_ialN C hK X 1 1 rfl rfl (by decide) (by decide) dX7_present_31 ?_
        have J40_3 : ∀ (x2 : Int32) (ls : Array Slot) (H : Heap) (locs : List Loc), x2 = (v_X7_present_2 n i) → lv_has ls 3 [(2, .int (nI i)), (1, .int (nI (prI n i))), (0, .ref o)] → Wd D A s.heap [(o, moE g hs a b c_), (a, arE ty 253 n)] H locs → W p l e (rmD 0) s m args below meth c H locs 0 0 Q (F0 m 40 ls [.int x2]) := by
          intro x2 ls H locs ex2 hl X
          subst ex2
          refine lv_istore_n (lv' := [(1, .int (v_X7_present_2 n i)), (2, .int (nI i)), (0, .ref o)]) hx hb dX7_present_40 rfl hl (by decide) rfl (fun ls hl => ?_)
          refine lv_iinc (v := ((nI i) + 1)) (lv' := [(2, .int ((nI i) + 1)), (1, .int (v_X7_present_2 n i)), (0, .ref o)]) hx hb dX7_present_41 hl (k := 1) rfl rfl (by decide) rfl (fun ls hl => ?_)
          refine lv_goto (tgt := 4) hx hb dX7_present_44 (by decide) ?_
          have h1 : i < sN n := lt_of_nnIle (by omega) (by omega) c0_0
          exact ih1 (i + 1) ((nI i) + 1) (v_X7_present_2 n i) _ _ _ (by omega) (by omega) (nI_1 i) (present_step n i) (lv_sub hl [0, 1, 2] rfl) X
        refine lv_icmp_gt (tgt := 39) hx hb dX7_present_32 (by decide) (fun c1_1 => ?_) (fun c1_1 => ?_)
        · refine lv_iload_n hx hb dX7_present_39 rfl (lv_at hl 1 rfl) ?_
          exact J40_3 (nI (prI n i)) _ _ _ (by first | (rw [v_X7_present_2, if_pos c1_1]; done) | (rw [v_X7_present_2, if_pos c1_1]; rfl) | (simp only [v_X7_present_2, if_pos c1_1]; done)) (lv_sub hl [0, 1, 2] rfl) X
        · refine lv_iload_n hx hb dX7_present_35 rfl (lv_at hl 0 rfl) ?_
          refine lv_goto (tgt := 40) hx hb dX7_present_36 (by decide) ?_
          exact J40_3 (nI i) _ _ _ (by first | (rw [v_X7_present_2, if_neg c1_1]; done) | (rw [v_X7_present_2, if_neg c1_1]; rfl) | (simp only [v_X7_present_2, if_neg c1_1]; done)) (lv_sub hl [0, 1, 2] rfl) X
  exact L1 ((sN n) + 1) 0 0 0 _ _ _ (by omega) (Nat.zero_le _) rfl rfl (lv_sub hl [0, 1, 2] rfl) X
def f_X7_frictionAt (n : F1) (j : Nat) : Int32 := (f_X7_frictionOf (n (75 + 3 * prI n (sN n) + 1 + j % 2)) (f_X7_slipOf n j))
set_option maxHeartbeats 4000000 in
set_option maxRecDepth 100000 in
theorem c_X7_frictionAt (l : Launch) (D : va_G) (ty : Nat → ClassId) (o : Nat) (a : Nat) (b : Nat) (c_ : Nat) (g : F1) (hs : Int64) (n : F1) (j : Nat) (hM : MOK n) (hj : j < 4) : MC l D ty yX7_frictionAt cX7_frictionAt 2 (some .int) 3 [.ref o, .int (nI j)] [(o, moE g hs a b c_), (a, arE ty 253 n)] (some (.int (f_X7_frictionAt n j))) [(o, moE g hs a b c_), (a, arE ty 253 n)] := by
  refine mc_i (by decide +kernel) (Nat.le_of_ble_eq_true rfl) ?_
  intro p e s m args below meth c A Q ls C hK hA X hret hl
  have hx := C.1
  have hb := C.2.1
  have hl : lv_has ls 2 [(0, .ref o), (1, .int (nI j))] := hl
  have X : Wd D A s.heap [(o, moE g hs a b c_), (a, arE ty 253 n)] s.heap [] := X
  obtain ⟨hn, hs1, hs2⟩ := sN_eq hM
  have hp := prI_lt n (sN n) hs1
  refine lv_aload_n hx hb dX7_frictionAt_0 rfl (lv_at hl 0 rfl) ?_
  refine get_mo_0 C hK X 0 rfl fl_X7_7 dX7_frictionAt_1 ?_
  refine lv_bipush (v := 75) hx hb dX7_frictionAt_4 (by decide) ?_
  refine lv_iconst (v := 3) hx hb dX7_frictionAt_6 (by decide) ?_
  refine lv_aload_n hx hb dX7_frictionAt_7 rfl (lv_at hl 0 rfl) ?_
  refine s_cV0i C hK hA X (c_X7_present l D ty o a b c_ g hs n hM) [0, 1] (pk_c rfl (pk_c rfl pk_n)) rfl ml_X7_present wm_X7_48 (q0 := 0) rfl rfl rfl ⟨Nat.le_of_ble_eq_true rfl, Nat.le_of_ble_eq_true rfl⟩ ⟨Nat.zero_le _, Nat.zero_le _⟩ hl.1 rfl (Nat.le_of_ble_eq_true rfl) dX7_frictionAt_8 (fun H locs X => ?_)
  refine lv_imul hx hb dX7_frictionAt_11 ?_
  refine lv_iadd hx hb dX7_frictionAt_12 ?_
  refine lv_iconst (v := 1) hx hb dX7_frictionAt_13 (by decide) ?_
  refine lv_iadd hx hb dX7_frictionAt_14 ?_
  refine lv_iload_n hx hb dX7_frictionAt_15 rfl (lv_at hl 1 rfl) ?_
  refine lv_iconst (v := 2) hx hb dX7_frictionAt_16 (by decide) ?_
  refine lv_irem hx hb dX7_frictionAt_17 (by decide) ?_
  refine s_eqi (y := nI (j % 2)) (pk_rem (d := 2) (by omega) (by decide) (by decide)) ?_
  refine lv_iadd hx hb dX7_frictionAt_18 ?_
  refine s_eqi (y := nI (75 + 3 * prI n (sN n) + 1 + j % 2)) (by rw [show (75 : Int32) + 3 * nI (prI n (sN n)) = nI (75 + 3 * prI n (sN n)) from lin 3 75 _, nI_1, nI_add]) ?_
  refine s_ialN C hK X 1 (75 + 3 * prI n (sN n) + 1 + j % 2) rfl rfl (by omega) (by decide) dX7_frictionAt_19 ?_
  refine lv_aload_n hx hb dX7_frictionAt_20 rfl (lv_at hl 0 rfl) ?_
  refine lv_iload_n hx hb dX7_frictionAt_21 rfl (lv_at hl 1 rfl) ?_
  refine s_cV0i C hK hA X (c_X7_slipOf l D ty o a b c_ g hs n j (by assumption)) [0, 1] (pk_c rfl (pk_c rfl pk_n)) rfl ml_X7_slipOf wm_X7_52 (q0 := 0) rfl rfl rfl ⟨Nat.le_of_ble_eq_true rfl, Nat.le_of_ble_eq_true rfl⟩ ⟨Nat.zero_le _, Nat.zero_le _⟩ hl.1 rfl (Nat.le_of_ble_eq_true rfl) dX7_frictionAt_22 (fun H locs X => ?_)
  refine s_cS0i C hK hA X (c_X7_frictionOf l D ty (n (75 + 3 * prI n (sN n) + 1 + j % 2)) (f_X7_slipOf n j)) [] pk_n rfl sl_X7_frictionOf wm_X7_56 ⟨Nat.le_of_ble_eq_true rfl, Nat.le_of_ble_eq_true rfl⟩ ⟨Nat.zero_le _, Nat.zero_le _⟩ hl.1 rfl (Nat.le_of_ble_eq_true rfl) dX7_frictionAt_25 (fun H locs X => ?_)
  exact hret _ _ _ _ _ _ dX7_frictionAt_28 X rfl (by first | (rw [f_X7_frictionAt]; done) | (rw [f_X7_frictionAt]; rfl) | (simp only [f_X7_frictionAt]; done))
def f_X7_dropsSegments_a (n : F1) : F1 := (va_cpy (upd n 74 (nI (sN n - prI n (sN n)))) (upd n 74 (nI (sN n - prI n (sN n)))) (75 + 3 * prI n (sN n)) 75 (3 * (sN n - prI n (sN n))))
theorem dr_ix (i p : Nat) : 75 + nI i + 3 * nI p = nI (75 + 3 * p + i) := by
  rw [show (75 : Int32) = nI 75 from rfl, show (3 : Int32) = nI 3 from rfl, pk_mul, nI_add, nI_add]; congr 1; omega
theorem drops_ok {n : F1} (hM : MOK n) : MOK (f_X7_dropsSegments_a n) := by
  obtain ⟨hn, hs1, hs2⟩ := sN_eq hM
  have hp := prI_lt n (sN n) hs1
  have e74 : f_X7_dropsSegments_a n 74 = nI (sN n - prI n (sN n)) := by unfold f_X7_dropsSegments_a; rw [cpy_lo (by omega)]; rfl
  have e : ∀ q, q < 74 ∨ 111 ≤ q → f_X7_dropsSegments_a n q = n q := by
    intro q hq
    unfold f_X7_dropsSegments_a
    rcases hq with hq | hq
    · rw [cpy_lo (by omega)]; exact pk_un (by omega)
    · rw [cpy_hi (by omega)]; exact pk_un (by omega)
  refine ⟨?_, ?_, ?_, fun j hj => ?_⟩
  · rw [e74, nI_toInt (by omega)]; omega
  · rw [e 111 (by omega)]; exact hM.2.1
  · rw [e 132 (by omega)]; exact hM.2.2.1
  · rw [e _ (by omega)]; exact hM.2.2.2 j hj
theorem ok_X7_dropsSegments_a (n : F1) (hM : MOK n) : MOK (f_X7_dropsSegments_a n) := drops_ok hM
set_option maxHeartbeats 4000000 in
set_option maxRecDepth 100000 in
theorem c_X7_dropsSegments (l : Launch) (D : va_G) (ty : Nat → ClassId) (o : Nat) (a : Nat) (b : Nat) (c_ : Nat) (g : F1) (hs : Int64) (n : F1) (hM : MOK n) : MC l D ty yX7_dropsSegments cX7_dropsSegments 3 none 1 [.ref o] [(o, moE g hs a b c_), (a, arE ty 253 n)] none [(o, moE g hs a b c_), (a, arE ty 253 (f_X7_dropsSegments_a n))] := by
  refine mc_v (by decide +kernel) (Nat.le_of_ble_eq_true rfl) ?_
  intro p e s m args below meth c A Q ls C hK hA X hret hl
  have hx := C.1
  have hb := C.2.1
  have hl : lv_has ls 3 [(0, .ref o)] := hl
  have X : Wd D A s.heap [(o, moE g hs a b c_), (a, arE ty 253 n)] s.heap [] := X
  obtain ⟨hn, hs1, hs2⟩ := sN_eq hM
  have hp := prI_lt n (sN n) hs1
  refine lv_aload_n hx hb dX7_dropsSegments_0 rfl (lv_at hl 0 rfl) ?_
  refine s_cV0i C hK hA X (c_X7_present l D ty o a b c_ g hs n hM) [0, 1] (pk_c rfl (pk_c rfl pk_n)) rfl ml_X7_present wm_X7_48 (q0 := 0) rfl rfl rfl ⟨Nat.le_of_ble_eq_true rfl, Nat.le_of_ble_eq_true rfl⟩ ⟨Nat.zero_le _, Nat.zero_le _⟩ hl.1 rfl (Nat.le_of_ble_eq_true rfl) dX7_dropsSegments_1 (fun H locs X => ?_)
  refine lv_istore_n (lv' := [(1, .int (nI (prI n (sN n)))), (0, .ref o)]) hx hb dX7_dropsSegments_4 rfl hl (by decide) rfl (fun ls hl => ?_)
  refine lv_aload_n hx hb dX7_dropsSegments_5 rfl (lv_at hl 1 rfl) ?_
  refine get_mo_0 C hK X 0 rfl fl_X7_7 dX7_dropsSegments_6 ?_
  refine lv_bipush (v := 74) hx hb dX7_dropsSegments_9 (by decide) ?_
  refine lv_dup2_11 hx hb dX7_dropsSegments_11 rfl rfl ?_
  refine s_ialN C hK X 1 74 rfl rfl (by decide) (by decide) dX7_dropsSegments_12 ?_
  refine s_eqi (y := nI (sN n)) (hn) ?_
  refine lv_iload_n hx hb dX7_dropsSegments_13 rfl (lv_at hl 0 rfl) ?_
  refine lv_isub hx hb dX7_dropsSegments_14 ?_
  refine s_eqi (y := nI (sN n - prI n (sN n))) (pk_sub (by omega)) ?_
  refine s_iasN C hK X 1 74 rfl rfl (by decide) (by decide) dX7_dropsSegments_15 (fun H locs X => ?_)
  have X : Wd D A s.heap [(o, moE g hs a b c_), (a, arE ty 253 (upd n 74 (nI (sN n - prI n (sN n)))))] H locs := X
  refine lv_iconst (v := 0) hx hb dX7_dropsSegments_16 (by decide) ?_
  refine lv_istore_n (lv' := [(2, .int 0), (1, .int (nI (prI n (sN n)))), (0, .ref o)]) hx hb dX7_dropsSegments_17 rfl hl (by decide) rfl (fun ls hl => ?_)
  have K1 : ∀ (y1_0 : Int32) (y1_1 : F1) (ls : Array Slot) (H : Heap) (locs : List Loc), y1_0 = (nI (3 * (sN n - prI n (sN n)))) → y1_1 = (va_cpy (upd n 74 (nI (sN n - prI n (sN n)))) (upd n 74 (nI (sN n - prI n (sN n)))) (75 + 3 * prI n (sN n)) 75 (3 * (sN n - prI n (sN n)))) → lv_has ls 3 [(2, .int y1_0), (1, .int (nI (prI n (sN n)))), (0, .ref o)] → Wd D A s.heap [(o, moE g hs a b c_), (a, arE ty 253 y1_1)] H locs → W p l e (rmD 1) s m args below meth c H locs 0 0 Q (F0 m 59 ls []) := by
    intro y1_0 y1_1 ls H locs ey1_0 ey1_1 hl X
    subst ey1_0; subst ey1_1
    have e_1_0 : (f_X7_dropsSegments_a n) = (va_cpy (upd n 74 (nI (sN n - prI n (sN n)))) (upd n 74 (nI (sN n - prI n (sN n)))) (75 + 3 * prI n (sN n)) 75 (3 * (sN n - prI n (sN n)))) := by first | (rw [f_X7_dropsSegments_a]; done) | (rw [f_X7_dropsSegments_a]; rfl) | (simp only [f_X7_dropsSegments_a]; done)
    exact hret _ _ _ _ _ dX7_dropsSegments_59 X (by rw [e_1_0])
  have L1 : ∀ (kf i : Nat) (y1_0 : Int32) (y1_1 : F1) (ls : Array Slot) (H : Heap) (locs : List Loc), (3 * (sN n - prI n (sN n))) - i < kf → (i ≤ 3 * (sN n - prI n (sN n))) → y1_0 = (nI i) → y1_1 = (va_cpy (upd n 74 (nI (sN n - prI n (sN n)))) (upd n 74 (nI (sN n - prI n (sN n)))) (75 + 3 * prI n (sN n)) 75 i) → lv_has ls 3 [(2, .int y1_0), (1, .int (nI (prI n (sN n)))), (0, .ref o)] → Wd D A s.heap [(o, moE g hs a b c_), (a, arE ty 253 y1_1)] H locs → W p l e (rmD 1) s m args below meth c H locs 0 0 Q (F0 m 18 ls []) := by
    intro kf
    induction kf with
    | zero => intro i y1_0 y1_1 ls H locs hk; exact absurd hk (Nat.not_lt_zero _)
    | succ kf ih1 =>
      intro i y1_0 y1_1 ls H locs hk hI ey1_0 ey1_1 hl X
      subst ey1_0; subst ey1_1
      refine lv_iload_n hx hb dX7_dropsSegments_18 rfl (lv_at hl 0 rfl) ?_
      refine lv_iconst (v := 3) hx hb dX7_dropsSegments_19 (by decide) ?_
      refine lv_aload_n hx hb dX7_dropsSegments_20 rfl (lv_at hl 2 rfl) ?_
      refine get_mo_0 C hK X 0 rfl fl_X7_7 dX7_dropsSegments_21 ?_
      refine lv_bipush (v := 74) hx hb dX7_dropsSegments_24 (by decide) ?_
      refine s_ialN C hK X 1 74 rfl rfl (by decide) (by decide) dX7_dropsSegments_26 ?_
      refine s_eqi (y := nI (sN n - prI n (sN n))) (cpy_lo (by omega)) ?_
      refine lv_imul hx hb dX7_dropsSegments_27 ?_
      refine s_eqi (y := nI (3 * (sN n - prI n (sN n)))) (pk_mul 3 _) ?_
      refine lv_icmp_ge (tgt := 59) hx hb dX7_dropsSegments_28 (by decide) (fun c0_0 => ?_) (fun c0_0 => ?_)
      · have hE : i = 3 * (sN n - prI n (sN n)) := eq_of_nIle (by omega) (by omega) hI c0_0
        exact K1 (nI i) (va_cpy (upd n 74 (nI (sN n - prI n (sN n)))) (upd n 74 (nI (sN n - prI n (sN n)))) (75 + 3 * prI n (sN n)) 75 i) _ _ _ (by rw [hE]) (by rw [hE]) (lv_sub hl [0, 1, 2] rfl) X
      · have h1 : i < 3 * (sN n - prI n (sN n)) := lt_of_nnIle (by omega) (by omega) c0_0
        refine lv_aload_n hx hb dX7_dropsSegments_31 rfl (lv_at hl 2 rfl) ?_
        refine get_mo_0 C hK X 0 rfl fl_X7_7 dX7_dropsSegments_32 ?_
        refine lv_bipush (v := 75) hx hb dX7_dropsSegments_35 (by decide) ?_
        refine lv_iload_n hx hb dX7_dropsSegments_37 rfl (lv_at hl 0 rfl) ?_
        refine lv_iadd hx hb dX7_dropsSegments_38 ?_
        refine s_eqi (y := nI (75 + i)) (nI_add 75 i) ?_
        refine lv_aload_n hx hb dX7_dropsSegments_39 rfl (lv_at hl 2 rfl) ?_
        refine get_mo_0 C hK X 0 rfl fl_X7_7 dX7_dropsSegments_40 ?_
        refine lv_bipush (v := 75) hx hb dX7_dropsSegments_43 (by decide) ?_
        refine lv_iload_n hx hb dX7_dropsSegments_45 rfl (lv_at hl 0 rfl) ?_
        refine lv_iadd hx hb dX7_dropsSegments_46 ?_
        refine lv_iconst (v := 3) hx hb dX7_dropsSegments_47 (by decide) ?_
        refine lv_iload_n hx hb dX7_dropsSegments_48 rfl (lv_at hl 1 rfl) ?_
        refine lv_imul hx hb dX7_dropsSegments_49 ?_
        refine lv_iadd hx hb dX7_dropsSegments_50 ?_
        refine s_eqi (y := nI (75 + 3 * prI n (sN n) + i)) (dr_ix i _) ?_
        refine s_ialN C hK X 1 (75 + 3 * prI n (sN n) + i) rfl rfl (by omega) (by decide) dX7_dropsSegments_51 ?_
        refine s_eqi (y := (upd n 74 (nI (sN n - prI n (sN n)))) (75 + 3 * prI n (sN n) + i)) (cpy_at (by omega)) ?_
        refine s_iasN C hK X 1 (75 + i) rfl rfl (by omega) (by decide) dX7_dropsSegments_52 (fun H locs X => ?_)
        have X : Wd D A s.heap [(o, moE g hs a b c_), (a, arE ty 253 (upd (va_cpy (upd n 74 (nI (sN n - prI n (sN n)))) (upd n 74 (nI (sN n - prI n (sN n)))) (75 + 3 * prI n (sN n)) 75 i) (75 + i) ((upd n 74 (nI (sN n - prI n (sN n)))) (75 + 3 * prI n (sN n) + i))))] H locs := X
        refine lv_iinc (v := ((nI i) + 1)) (lv' := [(2, .int ((nI i) + 1)), (1, .int (nI (prI n (sN n)))), (0, .ref o)]) hx hb dX7_dropsSegments_53 hl (k := 0) rfl rfl (by decide) rfl (fun ls hl => ?_)
        refine lv_goto (tgt := 18) hx hb dX7_dropsSegments_56 (by decide) ?_
        have h1 : i < 3 * (sN n - prI n (sN n)) := lt_of_nnIle (by omega) (by omega) c0_0
        exact ih1 (i + 1) ((nI i) + 1) (upd (va_cpy (upd n 74 (nI (sN n - prI n (sN n)))) (upd n 74 (nI (sN n - prI n (sN n)))) (75 + 3 * prI n (sN n)) 75 i) (75 + i) ((upd n 74 (nI (sN n - prI n (sN n)))) (75 + 3 * prI n (sN n) + i))) _ _ _ (by omega) (by omega) (nI_1 i) cpy_step (lv_sub hl [0, 1, 2] rfl) X
  exact L1 ((3 * (sN n - prI n (sN n))) + 1) 0 0 (upd n 74 (nI (sN n - prI n (sN n)))) _ _ _ (by omega) (Nat.zero_le _) rfl cpy_0.symm (lv_sub hl [0, 1, 2] rfl) X
/-- the number of events behind the shift -/
def eM (n : F1) : Nat := if n 132 = 40 then 39 else eN n
theorem lg_ix (i : Nat) : 133 + nI i + 3 = nI (136 + i) := by
  rw [show (133 : Int32) = nI 133 from rfl, show (3 : Int32) = nI 3 from rfl, nI_add, nI_add]; congr 1; omega
theorem logs_40 {n : F1} (c : n 132 = 40) : (va_cpy n n 136 133 117) 132 = 40 := by rw [cpy_lo (by omega)]; exact c
theorem eM_le {n : F1} (hM : MOK n) : eM n ≤ 39 := by
  obtain ⟨hn, he⟩ := eN_eq hM
  unfold eM
  split
  · omega
  · rename_i c
    rcases Nat.lt_or_ge (eN n) 40 with q | q
    · omega
    · exact absurd (by rw [hn, show eN n = 40 by omega]; rfl) c
def v_X7_logs_2 (n : F1) : F1 := (if (n 132) = 40 then (upd (va_cpy n n 136 133 117) 132 39) else n)
def f_X7_logs_a (n : F1) (kd : Int32) (vl : Int32) : F1 := (upd (upd (upd (upd (v_X7_logs_2 n) (133 + 3 * eM n) ((v_X7_logs_2 n) 2)) (133 + 3 * eM n + 1) kd) (133 + 3 * eM n + 2) vl) 132 (nI (eM n + 1)))
theorem logs_e {n : F1} (hM : MOK n) : (v_X7_logs_2 n) 132 = nI (eM n) ∧ eM n ≤ 39 := by
  refine ⟨?_, eM_le hM⟩
  obtain ⟨hn, he⟩ := eN_eq hM
  unfold v_X7_logs_2 eM
  split
  · exact pk_us
  · exact hn
theorem logs_rd {n : F1} (hM : MOK n) (x y z : Int32) : (upd (upd (upd (v_X7_logs_2 n) (133 + 3 * eM n) x) (133 + 3 * eM n + 1) y) (133 + 3 * eM n + 2) z) 132 = nI (eM n) := by
  rw [pk_un (by omega), pk_un (by omega), pk_un (by omega)]; exact (logs_e hM).1
theorem logs_lo (n : F1) (kd vl : Int32) (q : Nat) (h : q < 132) : f_X7_logs_a n kd vl q = n q := by
  unfold f_X7_logs_a v_X7_logs_2
  rw [pk_un (by omega), pk_un (by omega), pk_un (by omega), pk_un (by omega)]
  split
  · rw [pk_un (by omega), cpy_lo (by omega)]
  · rfl
theorem logs_ok {n : F1} {kd vl : Int32} (hM : MOK n) : MOK (f_X7_logs_a n kd vl) := by
  have h39 := eM_le hM
  refine ⟨?_, ?_, ?_, fun j hj => ?_⟩
  · rw [logs_lo n kd vl 74 (by omega)]; exact hM.1
  · rw [logs_lo n kd vl 111 (by omega)]; exact hM.2.1
  · have : f_X7_logs_a n kd vl 132 = nI (eM n + 1) := pk_us
    rw [this, nI_toInt (by omega)]; omega
  · rw [logs_lo n kd vl _ (by omega)]; exact hM.2.2.2 j hj
theorem ok_X7_logs_a (n : F1) (kd : Int32) (vl : Int32) (hM : MOK n) : MOK (f_X7_logs_a n kd vl) := logs_ok hM
set_option maxHeartbeats 4000000 in
set_option maxRecDepth 100000 in
theorem c_X7_logs (l : Launch) (D : va_G) (ty : Nat → ClassId) (o : Nat) (a : Nat) (b : Nat) (c_ : Nat) (g : F1) (hs : Int64) (n : F1) (kd : Int32) (vl : Int32) (hM : MOK n) : MC l D ty yX7_logs cX7_logs 4 none 0 [.ref o, .int kd, .int vl] [(o, moE g hs a b c_), (a, arE ty 253 n)] none [(o, moE g hs a b c_), (a, arE ty 253 (f_X7_logs_a n kd vl))] := by
  refine mc_v (by decide +kernel) (Nat.le_of_ble_eq_true rfl) ?_
  intro p e s m args below meth c A Q ls C hK hA X hret hl
  have hx := C.1
  have hb := C.2.1
  have hl : lv_has ls 4 [(0, .ref o), (1, .int kd), (2, .int vl)] := hl
  have X : Wd D A s.heap [(o, moE g hs a b c_), (a, arE ty 253 n)] s.heap [] := X
  obtain ⟨hn, he⟩ := eN_eq hM
  refine lv_aload_n hx hb dX7_logs_0 rfl (lv_at hl 0 rfl) ?_
  refine get_mo_0 C hK X 0 rfl fl_X7_7 dX7_logs_1 ?_
  refine lv_sipush (v := 132) hx hb dX7_logs_4 (by decide) ?_
  refine s_ialN C hK X 1 132 rfl rfl (by decide) (by decide) dX7_logs_7 ?_
  refine lv_bipush (v := 40) hx hb dX7_logs_8 (by decide) ?_
  have J61_3 : ∀ (x2 : F1) (ls : Array Slot) (H : Heap) (locs : List Loc), x2 = (v_X7_logs_2 n) → lv_has ls 4 [(0, .ref o), (1, .int kd), (2, .int vl)] → Wd D A s.heap [(o, moE g hs a b c_), (a, arE ty 253 x2)] H locs → W p l e (rmD 0) s m args below meth c H locs 0 0 Q (F0 m 61 ls []) := by
    intro x2 ls H locs ex2 hl X
    subst ex2
    have he1 := logs_e hM
    refine lv_sipush (v := 133) hx hb dX7_logs_61 (by decide) ?_
    refine lv_iconst (v := 3) hx hb dX7_logs_64 (by decide) ?_
    refine lv_aload_n hx hb dX7_logs_65 rfl (lv_at hl 0 rfl) ?_
    refine get_mo_0 C hK X 0 rfl fl_X7_7 dX7_logs_66 ?_
    refine lv_sipush (v := 132) hx hb dX7_logs_69 (by decide) ?_
    refine s_ialN C hK X 1 132 rfl rfl (by decide) (by decide) dX7_logs_72 ?_
    refine s_eqi (y := nI (eM n)) (he1.1) ?_
    refine lv_imul hx hb dX7_logs_73 ?_
    refine lv_iadd hx hb dX7_logs_74 ?_
    refine s_eqi (y := nI (133 + 3 * eM n)) (lin 3 133 _) ?_
    refine lv_istore_n (lv' := [(3, .int (nI (133 + 3 * eM n))), (0, .ref o), (1, .int kd), (2, .int vl)]) hx hb dX7_logs_75 rfl hl (by decide) rfl (fun ls hl => ?_)
    refine lv_aload_n hx hb dX7_logs_76 rfl (lv_at hl 1 rfl) ?_
    refine get_mo_0 C hK X 0 rfl fl_X7_7 dX7_logs_77 ?_
    refine lv_iload_n hx hb dX7_logs_80 rfl (lv_at hl 0 rfl) ?_
    refine lv_aload_n hx hb dX7_logs_81 rfl (lv_at hl 1 rfl) ?_
    refine get_mo_0 C hK X 0 rfl fl_X7_7 dX7_logs_82 ?_
    refine lv_iconst (v := 2) hx hb dX7_logs_85 (by decide) ?_
    refine s_ialN C hK X 1 2 rfl rfl (by decide) (by decide) dX7_logs_86 ?_
    refine s_iasN C hK X 1 (133 + 3 * eM n) rfl rfl (by omega) (by decide) dX7_logs_87 (fun H locs X => ?_)
    have X : Wd D A s.heap [(o, moE g hs a b c_), (a, arE ty 253 (upd (v_X7_logs_2 n) (133 + 3 * eM n) ((v_X7_logs_2 n) 2)))] H locs := X
    refine lv_aload_n hx hb dX7_logs_88 rfl (lv_at hl 1 rfl) ?_
    refine get_mo_0 C hK X 0 rfl fl_X7_7 dX7_logs_89 ?_
    refine lv_iload_n hx hb dX7_logs_92 rfl (lv_at hl 0 rfl) ?_
    refine lv_iconst (v := 1) hx hb dX7_logs_93 (by decide) ?_
    refine lv_iadd hx hb dX7_logs_94 ?_
    refine s_eqi (y := nI (133 + 3 * eM n + 1)) (nI_1 _) ?_
    refine lv_iload_n hx hb dX7_logs_95 rfl (lv_at hl 2 rfl) ?_
    refine s_iasN C hK X 1 (133 + 3 * eM n + 1) rfl rfl (by omega) (by decide) dX7_logs_96 (fun H locs X => ?_)
    have X : Wd D A s.heap [(o, moE g hs a b c_), (a, arE ty 253 (upd (upd (v_X7_logs_2 n) (133 + 3 * eM n) ((v_X7_logs_2 n) 2)) (133 + 3 * eM n + 1) kd))] H locs := X
    refine lv_aload_n hx hb dX7_logs_97 rfl (lv_at hl 1 rfl) ?_
    refine get_mo_0 C hK X 0 rfl fl_X7_7 dX7_logs_98 ?_
    refine lv_iload_n hx hb dX7_logs_101 rfl (lv_at hl 0 rfl) ?_
    refine lv_iconst (v := 2) hx hb dX7_logs_102 (by decide) ?_
    refine lv_iadd hx hb dX7_logs_103 ?_
    refine s_eqi (y := nI (133 + 3 * eM n + 2)) (nI_add _ 2) ?_
    refine lv_iload_n hx hb dX7_logs_104 rfl (lv_at hl 3 rfl) ?_
    refine s_iasN C hK X 1 (133 + 3 * eM n + 2) rfl rfl (by omega) (by decide) dX7_logs_105 (fun H locs X => ?_)
    have X : Wd D A s.heap [(o, moE g hs a b c_), (a, arE ty 253 (upd (upd (upd (v_X7_logs_2 n) (133 + 3 * eM n) ((v_X7_logs_2 n) 2)) (133 + 3 * eM n + 1) kd) (133 + 3 * eM n + 2) vl))] H locs := X
    refine lv_aload_n hx hb dX7_logs_106 rfl (lv_at hl 1 rfl) ?_
    refine get_mo_0 C hK X 0 rfl fl_X7_7 dX7_logs_107 ?_
    refine lv_sipush (v := 132) hx hb dX7_logs_110 (by decide) ?_
    refine lv_dup2_11 hx hb dX7_logs_113 rfl rfl ?_
    refine s_ialN C hK X 1 132 rfl rfl (by decide) (by decide) dX7_logs_114 ?_
    refine s_eqi (y := nI (eM n)) (logs_rd hM _ _ _) ?_
    refine lv_iconst (v := 1) hx hb dX7_logs_115 (by decide) ?_
    refine lv_iadd hx hb dX7_logs_116 ?_
    refine s_eqi (y := nI (eM n + 1)) (nI_1 _) ?_
    refine s_iasN C hK X 1 132 rfl rfl (by decide) (by decide) dX7_logs_117 (fun H locs X => ?_)
    have X : Wd D A s.heap [(o, moE g hs a b c_), (a, arE ty 253 (upd (upd (upd (upd (v_X7_logs_2 n) (133 + 3 * eM n) ((v_X7_logs_2 n) 2)) (133 + 3 * eM n + 1) kd) (133 + 3 * eM n + 2) vl) 132 (nI (eM n + 1))))] H locs := X
    have e_1_0 : (f_X7_logs_a n kd vl) = (upd (upd (upd (upd (v_X7_logs_2 n) (133 + 3 * eM n) ((v_X7_logs_2 n) 2)) (133 + 3 * eM n + 1) kd) (133 + 3 * eM n + 2) vl) 132 (nI (eM n + 1))) := by first | (rw [f_X7_logs_a]; done) | (rw [f_X7_logs_a]; rfl) | (simp only [f_X7_logs_a]; done)
    exact hret _ _ _ _ _ dX7_logs_118 X (by rw [e_1_0])
  refine lv_icmp_ne (tgt := 61) hx hb dX7_logs_10 (by decide) (fun c0_0 => ?_) (fun c0_0 => ?_)
  · exact J61_3 n _ _ _ (by first | (rw [v_X7_logs_2, if_neg c0_0]; done) | (rw [v_X7_logs_2, if_neg c0_0]; rfl) | (simp only [v_X7_logs_2, if_neg c0_0]; done)) (lv_sub hl [0, 1, 2] rfl) X
  · refine lv_iconst (v := 0) hx hb dX7_logs_13 (by decide) ?_
    refine lv_istore_n (lv' := [(3, .int 0), (0, .ref o), (1, .int kd), (2, .int vl)]) hx hb dX7_logs_14 rfl hl (by decide) rfl (fun ls hl => ?_)
    have K1 : ∀ (y1_0 : Int32) (y1_1 : F1) (ls : Array Slot) (H : Heap) (locs : List Loc), y1_0 = 117 → y1_1 = (va_cpy n n 136 133 117) → lv_has ls 4 [(3, .int y1_0), (0, .ref o), (1, .int kd), (2, .int vl)] → Wd D A s.heap [(o, moE g hs a b c_), (a, arE ty 253 y1_1)] H locs → W p l e (rmD 0) s m args below meth c H locs 0 0 Q (F0 m 49 ls []) := by
      intro y1_0 y1_1 ls H locs ey1_0 ey1_1 hl X
      subst ey1_0; subst ey1_1
      refine lv_aload_n hx hb dX7_logs_49 rfl (lv_at hl 1 rfl) ?_
      refine get_mo_0 C hK X 0 rfl fl_X7_7 dX7_logs_50 ?_
      refine lv_sipush (v := 132) hx hb dX7_logs_53 (by decide) ?_
      refine lv_dup2_11 hx hb dX7_logs_56 rfl rfl ?_
      refine s_ialN C hK X 1 132 rfl rfl (by decide) (by decide) dX7_logs_57 ?_
      refine s_eqi (y := 40) (logs_40 c0_0) ?_
      refine lv_iconst (v := 1) hx hb dX7_logs_58 (by decide) ?_
      refine lv_isub hx hb dX7_logs_59 ?_
      refine s_eqi (y := 39) ((by decide)) ?_
      refine s_iasN C hK X 1 132 rfl rfl (by decide) (by decide) dX7_logs_60 (fun H locs X => ?_)
      have X : Wd D A s.heap [(o, moE g hs a b c_), (a, arE ty 253 (upd (va_cpy n n 136 133 117) 132 39))] H locs := X
      exact J61_3 (upd (va_cpy n n 136 133 117) 132 39) _ _ _ (by first | (rw [v_X7_logs_2, if_pos c0_0]; done) | (rw [v_X7_logs_2, if_pos c0_0]; rfl) | (simp only [v_X7_logs_2, if_pos c0_0]; done)) (lv_sub hl [1, 2, 3] rfl) X
    have L1 : ∀ (kf i : Nat) (y1_0 : Int32) (y1_1 : F1) (ls : Array Slot) (H : Heap) (locs : List Loc), 117 - i < kf → (i ≤ 117) → y1_0 = (nI i) → y1_1 = (va_cpy n n 136 133 i) → lv_has ls 4 [(3, .int y1_0), (0, .ref o), (1, .int kd), (2, .int vl)] → Wd D A s.heap [(o, moE g hs a b c_), (a, arE ty 253 y1_1)] H locs → W p l e (rmD 0) s m args below meth c H locs 0 0 Q (F0 m 15 ls []) := by
      intro kf
      induction kf with
      | zero => intro i y1_0 y1_1 ls H locs hk; exact absurd hk (Nat.not_lt_zero _)
      | succ kf ih1 =>
        intro i y1_0 y1_1 ls H locs hk hI ey1_0 ey1_1 hl X
        subst ey1_0; subst ey1_1
        refine lv_iload_n hx hb dX7_logs_15 rfl (lv_at hl 0 rfl) ?_
        refine lv_bipush (v := 117) hx hb dX7_logs_16 (by decide) ?_
        refine lv_icmp_ge (tgt := 49) hx hb dX7_logs_18 (by decide) (fun c1_1 => ?_) (fun c1_1 => ?_)
        · have hE : i = 117 := eq_of_nIle (a := 117) (by decide) (by omega) hI c1_1
          exact K1 (nI i) (va_cpy n n 136 133 i) _ _ _ (by rw [hE]; rfl) (by rw [hE]) (lv_sub hl [0, 1, 2, 3] rfl) X
        · have h1 : i < 117 := lt_of_nnIle (a := 117) (b := i) (by decide) (by omega) c1_1
          refine lv_aload_n hx hb dX7_logs_21 rfl (lv_at hl 1 rfl) ?_
          refine get_mo_0 C hK X 0 rfl fl_X7_7 dX7_logs_22 ?_
          refine lv_sipush (v := 133) hx hb dX7_logs_25 (by decide) ?_
          refine lv_iload_n hx hb dX7_logs_28 rfl (lv_at hl 0 rfl) ?_
          refine lv_iadd hx hb dX7_logs_29 ?_
          refine s_eqi (y := nI (133 + i)) (nI_add 133 i) ?_
          refine lv_aload_n hx hb dX7_logs_30 rfl (lv_at hl 1 rfl) ?_
          refine get_mo_0 C hK X 0 rfl fl_X7_7 dX7_logs_31 ?_
          refine lv_sipush (v := 133) hx hb dX7_logs_34 (by decide) ?_
          refine lv_iload_n hx hb dX7_logs_37 rfl (lv_at hl 0 rfl) ?_
          refine lv_iadd hx hb dX7_logs_38 ?_
          refine lv_iconst (v := 3) hx hb dX7_logs_39 (by decide) ?_
          refine lv_iadd hx hb dX7_logs_40 ?_
          refine s_eqi (y := nI (136 + i)) (lg_ix i) ?_
          refine s_ialN C hK X 1 (136 + i) rfl rfl (by omega) (by decide) dX7_logs_41 ?_
          refine s_eqi (y := n (136 + i)) (cpy_at (by omega)) ?_
          refine s_iasN C hK X 1 (133 + i) rfl rfl (by omega) (by decide) dX7_logs_42 (fun H locs X => ?_)
          have X : Wd D A s.heap [(o, moE g hs a b c_), (a, arE ty 253 (upd (va_cpy n n 136 133 i) (133 + i) (n (136 + i))))] H locs := X
          refine lv_iinc (v := ((nI i) + 1)) (lv' := [(3, .int ((nI i) + 1)), (0, .ref o), (1, .int kd), (2, .int vl)]) hx hb dX7_logs_43 hl (k := 0) rfl rfl (by decide) rfl (fun ls hl => ?_)
          refine lv_goto (tgt := 15) hx hb dX7_logs_46 (by decide) ?_
          have h1 : i < 117 := lt_of_nnIle (a := 117) (b := i) (by decide) (by omega) c1_1
          exact ih1 (i + 1) ((nI i) + 1) (upd (va_cpy n n 136 133 i) (133 + i) (n (136 + i))) _ _ _ (by omega) (by omega) (nI_1 i) cpy_step (lv_sub hl [0, 1, 2, 3] rfl) X
    exact L1 (117 + 1) 0 0 n _ _ _ (by omega) (Nat.zero_le _) rfl cpy_0.symm (lv_sub hl [0, 1, 2, 3] rfl) X
/-- how many values are kept behind the shift -/
def kM (j : Nat) (n : F1) : Nat := if n (10 + 16 * j + 10) = 5 then 4 else kN j n
theorem kM_le {n : F1} {j : Nat} (hM : MOK n) (hj : j < 4) : kM j n ≤ 4 := by
  obtain ⟨hk, h5⟩ := kN_eq hM hj
  unfold kM
  split
  · omega
  · rename_i c
    rcases Nat.lt_or_ge (kN j n) 5 with q | q
    · omega
    · exact absurd (by rw [hk, show kN j n = 5 by omega]; rfl) c
theorem meas_i2 (j k : Nat) : 10 + 16 * nI j + (11 + nI k) = nI (10 + 16 * j + (11 + k)) := by
  rw [show (11 : Int32) + nI k = nI (11 + k) from nI_add 11 k]; exact atN j _
def v_X7_measures_1 (n : F1) (j : Nat) : F1 := (f_X7_sets_a (f_X7_sets_a n (n (10 + 16 * j + 12)) (10 + 16 * j + 11)) ((f_X7_sets_a n (n (10 + 16 * j + 12)) (10 + 16 * j + 11)) (10 + 16 * j + 13)) (10 + 16 * j + 12))
theorem okm_X7_measures_2 (n : F1) (j : Nat) (hM : MOK n) (hj : j < 4) : MOK (v_X7_measures_1 n j) := by
  exact (MOK_w (j := j) (k := 12) (by omega) (by decide) (MOK_w (j := j) (k := 11) (by omega) (by decide) hM))
def v_X7_measures_3 (n : F1) (j : Nat) : F1 := (f_X7_sets_a (v_X7_measures_1 n j) ((v_X7_measures_1 n j) (10 + 16 * j + 14)) (10 + 16 * j + 13))
theorem okm_X7_measures_4 (n : F1) (j : Nat) (hM : MOK n) (hj : j < 4) : MOK (v_X7_measures_3 n j) := by
  exact (MOK_w (j := j) (k := 13) (by omega) (by decide) (okm_X7_measures_2 n j hM hj))
def v_X7_measures_5 (n : F1) (j : Nat) : F1 := (f_X7_sets_a (v_X7_measures_3 n j) ((v_X7_measures_3 n j) (10 + 16 * j + 15)) (10 + 16 * j + 14))
theorem okm_X7_measures_6 (n : F1) (j : Nat) (hM : MOK n) (hj : j < 4) : MOK (v_X7_measures_5 n j) := by
  exact (MOK_w (j := j) (k := 14) (by omega) (by decide) (okm_X7_measures_4 n j hM hj))
def v_X7_measures_7 (n : F1) (j : Nat) : F1 := (if (n (10 + 16 * j + 10)) = 5 then (f_X7_sets_a (v_X7_measures_5 n j) 4 (10 + 16 * j + 10)) else n)
def v_X7_measures_9 (n : F1) (j : Nat) : Int32 := (if ((v_X7_measures_7 n j) (10 + 16 * j + 9)) = 1 then 0 else ((v_X7_measures_7 n j) (10 + 16 * j + 0)))
def v_X7_measures_11 (n : F1) (j : Nat) : F1 := (f_X7_sets_a (f_X7_sets_a (v_X7_measures_7 n j) (v_X7_measures_9 n j) (10 + 16 * j + (11 + kM j n))) (nI (kM j n + 1)) (10 + 16 * j + 10))
def f_X7_measures_a (n : F1) (j : Nat) : F1 := (v_X7_measures_11 n j)
theorem meas_k {n : F1} {j : Nat} (hM : MOK n) (hj : j < 4) : (v_X7_measures_7 n j) (10 + 16 * j + 10) = nI (kM j n) ∧ kM j n ≤ 4 := by
  refine ⟨?_, kM_le hM hj⟩
  obtain ⟨hk, h5⟩ := kN_eq hM hj
  unfold v_X7_measures_7 kM f_X7_sets_a
  split
  · exact pk_us
  · exact hk
theorem meas_rd {n : F1} {j : Nat} (hM : MOK n) (hj : j < 4) (x : Int32) : (f_X7_sets_a (v_X7_measures_7 n j) x (10 + 16 * j + (11 + kM j n))) (10 + 16 * j + 10) = nI (kM j n) := by
  unfold f_X7_sets_a
  rw [pk_un (by omega)]; exact (meas_k hM hj).1
theorem measures_out (n : F1) (j q : Nat) (hM : MOK n) (hj : j < 4) (h : q < 10 + 16 * j + 10 ∨ 10 + 16 * j + 16 ≤ q) : f_X7_measures_a n j q = n q := by
  have := kM_le hM hj
  unfold f_X7_measures_a v_X7_measures_11 v_X7_measures_7 f_X7_sets_a
  rw [pk_un (by omega), pk_un (by omega)]
  split
  · unfold v_X7_measures_5 v_X7_measures_3 v_X7_measures_1 f_X7_sets_a
    rw [pk_un (by omega), pk_un (by omega), pk_un (by omega), pk_un (by omega), pk_un (by omega)]
  · rfl
theorem measures_ok {n : F1} {j : Nat} (hM : MOK n) (hj : j < 4) : MOK (f_X7_measures_a n j) := by
  have h4 := kM_le hM hj
  refine ⟨?_, ?_, ?_, fun i hi => ?_⟩
  · rw [measures_out n j 74 hM hj (by omega)]; exact hM.1
  · rw [measures_out n j 111 hM hj (by omega)]; exact hM.2.1
  · rw [measures_out n j 132 hM hj (by omega)]; exact hM.2.2.1
  · by_cases e : i = j
    · subst e
      have : f_X7_measures_a n i (10 + 16 * i + 10) = nI (kM i n + 1) := pk_us
      rw [this, nI_toInt (by omega)]; omega
    · rw [measures_out n j _ hM hj (by omega)]; exact hM.2.2.2 i hi
theorem ok_X7_measures_a (n : F1) (j : Nat) (hM : MOK n) (hj : j < 4) : MOK (f_X7_measures_a n j) := measures_ok hM hj
set_option maxHeartbeats 4000000 in
set_option maxRecDepth 100000 in
theorem c_X7_measures (l : Launch) (D : va_G) (ty : Nat → ClassId) (o : Nat) (a : Nat) (b : Nat) (c_ : Nat) (g : F1) (hs : Int64) (n : F1) (j : Nat) (hM : MOK n) (hj : j < 4) : MC l D ty yX7_measures cX7_measures 3 none 2 [.ref o, .int (nI j)] [(o, moE g hs a b c_), (a, arE ty 253 n)] none [(o, moE g hs a b c_), (a, arE ty 253 (f_X7_measures_a n j))] := by
  refine mc_v (by decide +kernel) (Nat.le_of_ble_eq_true rfl) ?_
  intro p e s m args below meth c A Q ls C hK hA X hret hl
  have hx := C.1
  have hb := C.2.1
  have hl : lv_has ls 3 [(0, .ref o), (1, .int (nI j))] := hl
  have X : Wd D A s.heap [(o, moE g hs a b c_), (a, arE ty 253 n)] s.heap [] := X
  obtain ⟨hk, hk5⟩ := kN_eq hM hj
  refine lv_aload_n hx hb dX7_measures_0 rfl (lv_at hl 0 rfl) ?_
  refine lv_iload_n hx hb dX7_measures_1 rfl (lv_at hl 1 rfl) ?_
  refine lv_bipush (v := 10) hx hb dX7_measures_2 (by decide) ?_
  refine s_cV0i C hK hA X (c_X7_get l D ty o a b c_ g hs n (nI j) 10 (10 + 16 * j + 10) (atN j 10) (by omega)) [0, 1] (pk_c rfl (pk_c rfl pk_n)) rfl ml_X7_get wm_X7_45 (q0 := 0) rfl rfl rfl ⟨Nat.le_of_ble_eq_true rfl, Nat.le_of_ble_eq_true rfl⟩ ⟨Nat.zero_le _, Nat.zero_le _⟩ hl.1 rfl (Nat.le_of_ble_eq_true rfl) dX7_measures_4 (fun H locs X => ?_)
  refine lv_iconst (v := 5) hx hb dX7_measures_7 (by decide) ?_
  have J52_8 : ∀ (x7 : F1) (ls : Array Slot) (H : Heap) (locs : List Loc), x7 = (v_X7_measures_7 n j) → lv_has ls 3 [(0, .ref o), (1, .int (nI j))] → Wd D A s.heap [(o, moE g hs a b c_), (a, arE ty 253 x7)] H locs → W p l e (rmD 2) s m args below meth c H locs 0 0 Q (F0 m 52 ls []) := by
    intro x7 ls H locs ex7 hl X
    subst ex7
    refine lv_aload_n hx hb dX7_measures_52 rfl (lv_at hl 0 rfl) ?_
    refine lv_iload_n hx hb dX7_measures_53 rfl (lv_at hl 1 rfl) ?_
    refine lv_bipush (v := 11) hx hb dX7_measures_54 (by decide) ?_
    refine lv_aload_n hx hb dX7_measures_56 rfl (lv_at hl 0 rfl) ?_
    refine lv_iload_n hx hb dX7_measures_57 rfl (lv_at hl 1 rfl) ?_
    refine lv_bipush (v := 10) hx hb dX7_measures_58 (by decide) ?_
    refine s_cV0i C hK hA X (c_X7_get l D ty o a b c_ g hs (v_X7_measures_7 n j) (nI j) 10 (10 + 16 * j + 10) (atN j 10) (by omega)) [0, 1] (pk_c rfl (pk_c rfl pk_n)) rfl ml_X7_get wm_X7_45 (q0 := 0) rfl rfl rfl ⟨Nat.le_of_ble_eq_true rfl, Nat.le_of_ble_eq_true rfl⟩ ⟨Nat.zero_le _, Nat.zero_le _⟩ hl.1 rfl (Nat.le_of_ble_eq_true rfl) dX7_measures_60 (fun H locs X => ?_)
    refine s_eqi (y := nI (kM j n)) ((meas_k hM hj).1) ?_
    refine lv_iadd hx hb dX7_measures_63 ?_
    refine lv_aload_n hx hb dX7_measures_64 rfl (lv_at hl 0 rfl) ?_
    refine lv_iload_n hx hb dX7_measures_65 rfl (lv_at hl 1 rfl) ?_
    refine lv_bipush (v := 9) hx hb dX7_measures_66 (by decide) ?_
    refine s_cV0i C hK hA X (c_X7_get l D ty o a b c_ g hs (v_X7_measures_7 n j) (nI j) 9 (10 + 16 * j + 9) (atN j 9) (by omega)) [0, 1] (pk_c rfl (pk_c rfl pk_n)) rfl ml_X7_get wm_X7_45 (q0 := 0) rfl rfl rfl ⟨Nat.le_of_ble_eq_true rfl, Nat.le_of_ble_eq_true rfl⟩ ⟨Nat.zero_le _, Nat.zero_le _⟩ hl.1 rfl (Nat.le_of_ble_eq_true rfl) dX7_measures_68 (fun H locs X => ?_)
    refine lv_iconst (v := 1) hx hb dX7_measures_71 (by decide) ?_
    have J85_10 : ∀ (x9 : Int32) (ls : Array Slot) (H : Heap) (locs : List Loc), x9 = (v_X7_measures_9 n j) → lv_has ls 3 [(0, .ref o), (1, .int (nI j))] → Wd D A s.heap [(o, moE g hs a b c_), (a, arE ty 253 (v_X7_measures_7 n j))] H locs → W p l e (rmD 2) s m args below meth c H locs 0 0 Q (F0 m 85 ls [.int x9, .int (11 + (nI (kM j n))), .int (nI j), .ref o]) := by
      intro x9 ls H locs ex9 hl X
      subst ex9
      refine s_cVv (ws' := [(o, moE g hs a b c_), (a, arE ty 253 (f_X7_sets_a (v_X7_measures_7 n j) (v_X7_measures_9 n j) (10 + 16 * j + (11 + kM j n))))]) C hK hA X (c_X7_sets l D ty o a b c_ g hs (v_X7_measures_7 n j) (nI j) (11 + (nI (kM j n))) (v_X7_measures_9 n j) (10 + 16 * j + (11 + kM j n)) (meas_i2 j (kM j n)) (by have := (meas_k hM hj).2; omega)) [0, 1] (pk_c rfl (pk_c rfl pk_n)) rfl (pk_c rfl (pk_c rfl pk_n)) (em_t (em_t em_n)) rfl ml_X7_sets wm_X7_59 (q0 := 0) rfl rfl rfl ⟨Nat.le_of_ble_eq_true rfl, Nat.le_of_ble_eq_true rfl⟩ ⟨Nat.zero_le _, Nat.zero_le _⟩ hl.1 rfl (Nat.le_of_ble_eq_true rfl) dX7_measures_85 (fun H locs X => ?_)
      refine lv_aload_n hx hb dX7_measures_88 rfl (lv_at hl 0 rfl) ?_
      refine lv_iload_n hx hb dX7_measures_89 rfl (lv_at hl 1 rfl) ?_
      refine lv_bipush (v := 10) hx hb dX7_measures_90 (by decide) ?_
      refine lv_aload_n hx hb dX7_measures_92 rfl (lv_at hl 0 rfl) ?_
      refine lv_iload_n hx hb dX7_measures_93 rfl (lv_at hl 1 rfl) ?_
      refine lv_bipush (v := 10) hx hb dX7_measures_94 (by decide) ?_
      refine s_cV0i C hK hA X (c_X7_get l D ty o a b c_ g hs (f_X7_sets_a (v_X7_measures_7 n j) (v_X7_measures_9 n j) (10 + 16 * j + (11 + kM j n))) (nI j) 10 (10 + 16 * j + 10) (atN j 10) (by omega)) [0, 1] (pk_c rfl (pk_c rfl pk_n)) rfl ml_X7_get wm_X7_45 (q0 := 0) rfl rfl rfl ⟨Nat.le_of_ble_eq_true rfl, Nat.le_of_ble_eq_true rfl⟩ ⟨Nat.zero_le _, Nat.zero_le _⟩ hl.1 rfl (Nat.le_of_ble_eq_true rfl) dX7_measures_96 (fun H locs X => ?_)
      refine s_eqi (y := nI (kM j n)) (meas_rd hM hj _) ?_
      refine lv_iconst (v := 1) hx hb dX7_measures_99 (by decide) ?_
      refine lv_iadd hx hb dX7_measures_100 ?_
      refine s_eqi (y := nI (kM j n + 1)) (nI_1 _) ?_
      refine s_cVv (ws' := [(o, moE g hs a b c_), (a, arE ty 253 (v_X7_measures_11 n j))]) C hK hA X (c_X7_sets l D ty o a b c_ g hs (f_X7_sets_a (v_X7_measures_7 n j) (v_X7_measures_9 n j) (10 + 16 * j + (11 + kM j n))) (nI j) 10 (nI (kM j n + 1)) (10 + 16 * j + 10) (atN j 10) (by omega)) [0, 1] (pk_c rfl (pk_c rfl pk_n)) rfl (pk_c rfl (pk_c rfl pk_n)) (em_t (em_t em_n)) rfl ml_X7_sets wm_X7_59 (q0 := 0) rfl rfl rfl ⟨Nat.le_of_ble_eq_true rfl, Nat.le_of_ble_eq_true rfl⟩ ⟨Nat.zero_le _, Nat.zero_le _⟩ hl.1 rfl (Nat.le_of_ble_eq_true rfl) dX7_measures_101 (fun H locs X => ?_)
      have e_1_0 : (f_X7_measures_a n j) = (v_X7_measures_11 n j) := by first | (rw [f_X7_measures_a]; done) | (rw [f_X7_measures_a]; rfl) | (simp only [f_X7_measures_a]; done)
      exact hret _ _ _ _ _ dX7_measures_104 X (by rw [e_1_0])
    refine lv_icmp_ne (tgt := 79) hx hb dX7_measures_72 (by decide) (fun c0_0 => ?_) (fun c0_0 => ?_)
    · refine lv_aload_n hx hb dX7_measures_79 rfl (lv_at hl 0 rfl) ?_
      refine lv_iload_n hx hb dX7_measures_80 rfl (lv_at hl 1 rfl) ?_
      refine lv_iconst (v := 0) hx hb dX7_measures_81 (by decide) ?_
      refine s_cV0i C hK hA X (c_X7_get l D ty o a b c_ g hs (v_X7_measures_7 n j) (nI j) 0 (10 + 16 * j + 0) (atN j 0) (by omega)) [0, 1] (pk_c rfl (pk_c rfl pk_n)) rfl ml_X7_get wm_X7_45 (q0 := 0) rfl rfl rfl ⟨Nat.le_of_ble_eq_true rfl, Nat.le_of_ble_eq_true rfl⟩ ⟨Nat.zero_le _, Nat.zero_le _⟩ hl.1 rfl (Nat.le_of_ble_eq_true rfl) dX7_measures_82 (fun H locs X => ?_)
      exact J85_10 ((v_X7_measures_7 n j) (10 + 16 * j + 0)) _ _ _ (by first | (rw [v_X7_measures_9, if_neg c0_0]; done) | (rw [v_X7_measures_9, if_neg c0_0]; rfl) | (simp only [v_X7_measures_9, if_neg c0_0]; done)) (lv_sub hl [0, 1] rfl) X
    · refine lv_iconst (v := 0) hx hb dX7_measures_75 (by decide) ?_
      refine lv_goto (tgt := 85) hx hb dX7_measures_76 (by decide) ?_
      exact J85_10 0 _ _ _ (by first | (rw [v_X7_measures_9, if_pos c0_0]; done) | (rw [v_X7_measures_9, if_pos c0_0]; rfl) | (simp only [v_X7_measures_9, if_pos c0_0]; done)) (lv_sub hl [0, 1] rfl) X
  refine lv_icmp_ne (tgt := 52) hx hb dX7_measures_8 (by decide) (fun c0_0 => ?_) (fun c0_0 => ?_)
  · exact J52_8 n _ _ _ (by first | (rw [v_X7_measures_7, if_neg c0_0]; done) | (rw [v_X7_measures_7, if_neg c0_0]; rfl) | (simp only [v_X7_measures_7, if_neg c0_0]; done)) (lv_sub hl [0, 1] rfl) X
  · refine lv_iconst (v := 0) hx hb dX7_measures_11 (by decide) ?_
    refine lv_istore_n (lv' := [(2, .int 0), (0, .ref o), (1, .int (nI j))]) hx hb dX7_measures_12 rfl hl (by decide) rfl (fun ls hl => ?_)
    refine lv_iload_n hx hb dX7_measures_13 rfl (lv_at hl 0 rfl) ?_
    refine lv_iconst (v := 4) hx hb dX7_measures_14 (by decide) ?_
    refine lv_icmp_ge (tgt := 44) hx hb dX7_measures_15 (by decide) (fun c0 => absurd c0 (by decide)) (fun _ => ?_)
    refine lv_aload_n hx hb dX7_measures_18 rfl (lv_at hl 1 rfl) ?_
    refine lv_iload_n hx hb dX7_measures_19 rfl (lv_at hl 2 rfl) ?_
    refine lv_bipush (v := 11) hx hb dX7_measures_20 (by decide) ?_
    refine lv_iload_n hx hb dX7_measures_22 rfl (lv_at hl 0 rfl) ?_
    refine lv_iadd hx hb dX7_measures_23 ?_
    refine s_eqi (y := 11) (by decide) ?_
    refine lv_aload_n hx hb dX7_measures_24 rfl (lv_at hl 1 rfl) ?_
    refine lv_iload_n hx hb dX7_measures_25 rfl (lv_at hl 2 rfl) ?_
    refine lv_bipush (v := 11) hx hb dX7_measures_26 (by decide) ?_
    refine lv_iload_n hx hb dX7_measures_28 rfl (lv_at hl 0 rfl) ?_
    refine lv_iadd hx hb dX7_measures_29 ?_
    refine s_eqi (y := 11) (by decide) ?_
    refine lv_iconst (v := 1) hx hb dX7_measures_30 (by decide) ?_
    refine lv_iadd hx hb dX7_measures_31 ?_
    refine s_eqi (y := 12) (by decide) ?_
    refine s_cV0i C hK hA X (c_X7_get l D ty o a b c_ g hs n (nI j) 12 (10 + 16 * j + 12) (atN j 12) (by omega)) [0, 1] (pk_c rfl (pk_c rfl pk_n)) rfl ml_X7_get wm_X7_45 (q0 := 0) rfl rfl rfl ⟨Nat.le_of_ble_eq_true rfl, Nat.le_of_ble_eq_true rfl⟩ ⟨Nat.zero_le _, Nat.zero_le _⟩ hl.1 rfl (Nat.le_of_ble_eq_true rfl) dX7_measures_32 (fun H locs X => ?_)
    refine s_cVv (ws' := [(o, moE g hs a b c_), (a, arE ty 253 (f_X7_sets_a n (n (10 + 16 * j + 12)) (10 + 16 * j + 11)))]) C hK hA X (c_X7_sets l D ty o a b c_ g hs n (nI j) 11 (n (10 + 16 * j + 12)) (10 + 16 * j + 11) (atN j 11) (by omega)) [0, 1] (pk_c rfl (pk_c rfl pk_n)) rfl (pk_c rfl (pk_c rfl pk_n)) (em_t (em_t em_n)) rfl ml_X7_sets wm_X7_59 (q0 := 0) rfl rfl rfl ⟨Nat.le_of_ble_eq_true rfl, Nat.le_of_ble_eq_true rfl⟩ ⟨Nat.zero_le _, Nat.zero_le _⟩ hl.1 rfl (Nat.le_of_ble_eq_true rfl) dX7_measures_35 (fun H locs X => ?_)
    refine lv_iinc (v := 1) (lv' := [(2, .int 1), (0, .ref o), (1, .int (nI j))]) hx hb dX7_measures_38 hl (k := 0) rfl (by decide) (by decide) rfl (fun ls hl => ?_)
    refine lv_goto (tgt := 13) hx hb dX7_measures_41 (by decide) ?_
    refine lv_iload_n hx hb dX7_measures_13 rfl (lv_at hl 0 rfl) ?_
    refine lv_iconst (v := 4) hx hb dX7_measures_14 (by decide) ?_
    refine lv_icmp_ge (tgt := 44) hx hb dX7_measures_15 (by decide) (fun c0 => absurd c0 (by decide)) (fun _ => ?_)
    refine lv_aload_n hx hb dX7_measures_18 rfl (lv_at hl 1 rfl) ?_
    refine lv_iload_n hx hb dX7_measures_19 rfl (lv_at hl 2 rfl) ?_
    refine lv_bipush (v := 11) hx hb dX7_measures_20 (by decide) ?_
    refine lv_iload_n hx hb dX7_measures_22 rfl (lv_at hl 0 rfl) ?_
    refine lv_iadd hx hb dX7_measures_23 ?_
    refine s_eqi (y := 12) (by decide) ?_
    refine lv_aload_n hx hb dX7_measures_24 rfl (lv_at hl 1 rfl) ?_
    refine lv_iload_n hx hb dX7_measures_25 rfl (lv_at hl 2 rfl) ?_
    refine lv_bipush (v := 11) hx hb dX7_measures_26 (by decide) ?_
    refine lv_iload_n hx hb dX7_measures_28 rfl (lv_at hl 0 rfl) ?_
    refine lv_iadd hx hb dX7_measures_29 ?_
    refine s_eqi (y := 12) (by decide) ?_
    refine lv_iconst (v := 1) hx hb dX7_measures_30 (by decide) ?_
    refine lv_iadd hx hb dX7_measures_31 ?_
    refine s_eqi (y := 13) (by decide) ?_
    refine s_cV0i C hK hA X (c_X7_get l D ty o a b c_ g hs (f_X7_sets_a n (n (10 + 16 * j + 12)) (10 + 16 * j + 11)) (nI j) 13 (10 + 16 * j + 13) (atN j 13) (by omega)) [0, 1] (pk_c rfl (pk_c rfl pk_n)) rfl ml_X7_get wm_X7_45 (q0 := 0) rfl rfl rfl ⟨Nat.le_of_ble_eq_true rfl, Nat.le_of_ble_eq_true rfl⟩ ⟨Nat.zero_le _, Nat.zero_le _⟩ hl.1 rfl (Nat.le_of_ble_eq_true rfl) dX7_measures_32 (fun H locs X => ?_)
    refine s_cVv (ws' := [(o, moE g hs a b c_), (a, arE ty 253 (v_X7_measures_1 n j))]) C hK hA X (c_X7_sets l D ty o a b c_ g hs (f_X7_sets_a n (n (10 + 16 * j + 12)) (10 + 16 * j + 11)) (nI j) 12 ((f_X7_sets_a n (n (10 + 16 * j + 12)) (10 + 16 * j + 11)) (10 + 16 * j + 13)) (10 + 16 * j + 12) (atN j 12) (by omega)) [0, 1] (pk_c rfl (pk_c rfl pk_n)) rfl (pk_c rfl (pk_c rfl pk_n)) (em_t (em_t em_n)) rfl ml_X7_sets wm_X7_59 (q0 := 0) rfl rfl rfl ⟨Nat.le_of_ble_eq_true rfl, Nat.le_of_ble_eq_true rfl⟩ ⟨Nat.zero_le _, Nat.zero_le _⟩ hl.1 rfl (Nat.le_of_ble_eq_true rfl) dX7_measures_35 (fun H locs X => ?_)
    refine lv_iinc (v := 2) (lv' := [(2, .int 2), (0, .ref o), (1, .int (nI j))]) hx hb dX7_measures_38 hl (k := 0) rfl (by decide) (by decide) rfl (fun ls hl => ?_)
    refine lv_goto (tgt := 13) hx hb dX7_measures_41 (by decide) ?_
    refine lv_iload_n hx hb dX7_measures_13 rfl (lv_at hl 0 rfl) ?_
    refine lv_iconst (v := 4) hx hb dX7_measures_14 (by decide) ?_
    refine lv_icmp_ge (tgt := 44) hx hb dX7_measures_15 (by decide) (fun c0 => absurd c0 (by decide)) (fun _ => ?_)
    refine lv_aload_n hx hb dX7_measures_18 rfl (lv_at hl 1 rfl) ?_
    refine lv_iload_n hx hb dX7_measures_19 rfl (lv_at hl 2 rfl) ?_
    refine lv_bipush (v := 11) hx hb dX7_measures_20 (by decide) ?_
    refine lv_iload_n hx hb dX7_measures_22 rfl (lv_at hl 0 rfl) ?_
    refine lv_iadd hx hb dX7_measures_23 ?_
    refine s_eqi (y := 13) (by decide) ?_
    refine lv_aload_n hx hb dX7_measures_24 rfl (lv_at hl 1 rfl) ?_
    refine lv_iload_n hx hb dX7_measures_25 rfl (lv_at hl 2 rfl) ?_
    refine lv_bipush (v := 11) hx hb dX7_measures_26 (by decide) ?_
    refine lv_iload_n hx hb dX7_measures_28 rfl (lv_at hl 0 rfl) ?_
    refine lv_iadd hx hb dX7_measures_29 ?_
    refine s_eqi (y := 13) (by decide) ?_
    refine lv_iconst (v := 1) hx hb dX7_measures_30 (by decide) ?_
    refine lv_iadd hx hb dX7_measures_31 ?_
    refine s_eqi (y := 14) (by decide) ?_
    refine s_cV0i C hK hA X (c_X7_get l D ty o a b c_ g hs (v_X7_measures_1 n j) (nI j) 14 (10 + 16 * j + 14) (atN j 14) (by omega)) [0, 1] (pk_c rfl (pk_c rfl pk_n)) rfl ml_X7_get wm_X7_45 (q0 := 0) rfl rfl rfl ⟨Nat.le_of_ble_eq_true rfl, Nat.le_of_ble_eq_true rfl⟩ ⟨Nat.zero_le _, Nat.zero_le _⟩ hl.1 rfl (Nat.le_of_ble_eq_true rfl) dX7_measures_32 (fun H locs X => ?_)
    refine s_cVv (ws' := [(o, moE g hs a b c_), (a, arE ty 253 (v_X7_measures_3 n j))]) C hK hA X (c_X7_sets l D ty o a b c_ g hs (v_X7_measures_1 n j) (nI j) 13 ((v_X7_measures_1 n j) (10 + 16 * j + 14)) (10 + 16 * j + 13) (atN j 13) (by omega)) [0, 1] (pk_c rfl (pk_c rfl pk_n)) rfl (pk_c rfl (pk_c rfl pk_n)) (em_t (em_t em_n)) rfl ml_X7_sets wm_X7_59 (q0 := 0) rfl rfl rfl ⟨Nat.le_of_ble_eq_true rfl, Nat.le_of_ble_eq_true rfl⟩ ⟨Nat.zero_le _, Nat.zero_le _⟩ hl.1 rfl (Nat.le_of_ble_eq_true rfl) dX7_measures_35 (fun H locs X => ?_)
    refine lv_iinc (v := 3) (lv' := [(2, .int 3), (0, .ref o), (1, .int (nI j))]) hx hb dX7_measures_38 hl (k := 0) rfl (by decide) (by decide) rfl (fun ls hl => ?_)
    refine lv_goto (tgt := 13) hx hb dX7_measures_41 (by decide) ?_
    refine lv_iload_n hx hb dX7_measures_13 rfl (lv_at hl 0 rfl) ?_
    refine lv_iconst (v := 4) hx hb dX7_measures_14 (by decide) ?_
    refine lv_icmp_ge (tgt := 44) hx hb dX7_measures_15 (by decide) (fun c0 => absurd c0 (by decide)) (fun _ => ?_)
    refine lv_aload_n hx hb dX7_measures_18 rfl (lv_at hl 1 rfl) ?_
    refine lv_iload_n hx hb dX7_measures_19 rfl (lv_at hl 2 rfl) ?_
    refine lv_bipush (v := 11) hx hb dX7_measures_20 (by decide) ?_
    refine lv_iload_n hx hb dX7_measures_22 rfl (lv_at hl 0 rfl) ?_
    refine lv_iadd hx hb dX7_measures_23 ?_
    refine s_eqi (y := 14) (by decide) ?_
    refine lv_aload_n hx hb dX7_measures_24 rfl (lv_at hl 1 rfl) ?_
    refine lv_iload_n hx hb dX7_measures_25 rfl (lv_at hl 2 rfl) ?_
    refine lv_bipush (v := 11) hx hb dX7_measures_26 (by decide) ?_
    refine lv_iload_n hx hb dX7_measures_28 rfl (lv_at hl 0 rfl) ?_
    refine lv_iadd hx hb dX7_measures_29 ?_
    refine s_eqi (y := 14) (by decide) ?_
    refine lv_iconst (v := 1) hx hb dX7_measures_30 (by decide) ?_
    refine lv_iadd hx hb dX7_measures_31 ?_
    refine s_eqi (y := 15) (by decide) ?_
    refine s_cV0i C hK hA X (c_X7_get l D ty o a b c_ g hs (v_X7_measures_3 n j) (nI j) 15 (10 + 16 * j + 15) (atN j 15) (by omega)) [0, 1] (pk_c rfl (pk_c rfl pk_n)) rfl ml_X7_get wm_X7_45 (q0 := 0) rfl rfl rfl ⟨Nat.le_of_ble_eq_true rfl, Nat.le_of_ble_eq_true rfl⟩ ⟨Nat.zero_le _, Nat.zero_le _⟩ hl.1 rfl (Nat.le_of_ble_eq_true rfl) dX7_measures_32 (fun H locs X => ?_)
    refine s_cVv (ws' := [(o, moE g hs a b c_), (a, arE ty 253 (v_X7_measures_5 n j))]) C hK hA X (c_X7_sets l D ty o a b c_ g hs (v_X7_measures_3 n j) (nI j) 14 ((v_X7_measures_3 n j) (10 + 16 * j + 15)) (10 + 16 * j + 14) (atN j 14) (by omega)) [0, 1] (pk_c rfl (pk_c rfl pk_n)) rfl (pk_c rfl (pk_c rfl pk_n)) (em_t (em_t em_n)) rfl ml_X7_sets wm_X7_59 (q0 := 0) rfl rfl rfl ⟨Nat.le_of_ble_eq_true rfl, Nat.le_of_ble_eq_true rfl⟩ ⟨Nat.zero_le _, Nat.zero_le _⟩ hl.1 rfl (Nat.le_of_ble_eq_true rfl) dX7_measures_35 (fun H locs X => ?_)
    refine lv_iinc (v := 4) (lv' := [(2, .int 4), (0, .ref o), (1, .int (nI j))]) hx hb dX7_measures_38 hl (k := 0) rfl (by decide) (by decide) rfl (fun ls hl => ?_)
    refine lv_goto (tgt := 13) hx hb dX7_measures_41 (by decide) ?_
    refine lv_iload_n hx hb dX7_measures_13 rfl (lv_at hl 0 rfl) ?_
    refine lv_iconst (v := 4) hx hb dX7_measures_14 (by decide) ?_
    refine lv_icmp_ge (tgt := 44) hx hb dX7_measures_15 (by decide) (fun _ => ?_) (fun c0 => absurd (by decide) c0)
    refine lv_aload_n hx hb dX7_measures_44 rfl (lv_at hl 1 rfl) ?_
    refine lv_iload_n hx hb dX7_measures_45 rfl (lv_at hl 2 rfl) ?_
    refine lv_bipush (v := 10) hx hb dX7_measures_46 (by decide) ?_
    refine lv_iconst (v := 4) hx hb dX7_measures_48 (by decide) ?_
    refine s_cVv (ws' := [(o, moE g hs a b c_), (a, arE ty 253 (f_X7_sets_a (v_X7_measures_5 n j) 4 (10 + 16 * j + 10)))]) C hK hA X (c_X7_sets l D ty o a b c_ g hs (v_X7_measures_5 n j) (nI j) 10 4 (10 + 16 * j + 10) (atN j 10) (by omega)) [0, 1] (pk_c rfl (pk_c rfl pk_n)) rfl (pk_c rfl (pk_c rfl pk_n)) (em_t (em_t em_n)) rfl ml_X7_sets wm_X7_59 (q0 := 0) rfl rfl rfl ⟨Nat.le_of_ble_eq_true rfl, Nat.le_of_ble_eq_true rfl⟩ ⟨Nat.zero_le _, Nat.zero_le _⟩ hl.1 rfl (Nat.le_of_ble_eq_true rfl) dX7_measures_49 (fun H locs X => ?_)
    exact J52_8 (f_X7_sets_a (v_X7_measures_5 n j) 4 (10 + 16 * j + 10)) _ _ _ (by first | (rw [v_X7_measures_7, if_pos c0_0]; done) | (rw [v_X7_measures_7, if_pos c0_0]; rfl) | (simp only [v_X7_measures_7, if_pos c0_0]; done)) (lv_sub hl [1, 2] rfl) X
