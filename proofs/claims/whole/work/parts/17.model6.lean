def distOK (V sf dm : Int32) : Int32 := (if (f_X7_within sf 0 22) = 0 then 0 else (if (f_X7_isSurface (sf - sf / 10 * 10)) = 0 then 0 else (if (f_X7_within V 0 60000) = 0 then 0 else (if (f_X7_within dm 0 2000) = 0 then 0 else 1))))
def v_X7_stopDistance_no_1 (V : Int32) (sf : Int32) (dm : Int32) : Int32 := (if (f_X7_within sf 0 22) = 0 then 0 else (if (f_X7_isSurface (sf - sf / 10 * 10)) = 0 then 0 else (if (f_X7_within V 0 60000) = 0 then 0 else (if (f_X7_within dm 0 2000) = 0 then 0 else 1))))
def f_X7_stopDistance_no_o (g : F1) : F1 := (f_X7_refused_o g 1)
set_option maxHeartbeats 4000000 in
set_option maxRecDepth 100000 in
theorem c_X7_stopDistance_no (l : Launch) (D : va_G) (ty : Nat → ClassId) (o : Nat) (a : Nat) (b : Nat) (c_ : Nat) (g : F1) (hs : Int64) (V : Int32) (sf : Int32) (dm : Int32) (on : Int32) (hv : distOK V sf dm = 0) : MC l D ty yX7_stopDistance cX7_stopDistance 8 (some .int) 2 [.ref o, .int V, .int sf, .int dm, .int on] [(o, moE g hs a b c_)] (some (.int 0)) [(o, moE (f_X7_stopDistance_no_o g) hs a b c_)] := by
  refine mc_i (by decide +kernel) (Nat.le_of_ble_eq_true rfl) ?_
  intro p e s m args below meth c A Q ls C hK hA X hret hl
  have hx := C.1
  have hb := C.2.1
  have hl : lv_has ls 8 [(0, .ref o), (1, .int V), (2, .int sf), (3, .int dm), (4, .int on)] := hl
  have X : Wd D A s.heap [(o, moE g hs a b c_)] s.heap [] := X
  refine lv_iload_n hx hb dX7_stopDistance_0 rfl (lv_at hl 2 rfl) ?_
  refine lv_iconst (v := 0) hx hb dX7_stopDistance_1 (by decide) ?_
  refine lv_bipush (v := 22) hx hb dX7_stopDistance_2 (by decide) ?_
  refine s_cS0i C hK hA X (c_X7_within l D ty sf 0 22) [] pk_n rfl sl_X7_within wm_X7_37 ⟨Nat.le_of_ble_eq_true rfl, Nat.le_of_ble_eq_true rfl⟩ ⟨Nat.zero_le _, Nat.zero_le _⟩ hl.1 rfl (Nat.le_of_ble_eq_true rfl) dX7_stopDistance_4 (fun H locs X => ?_)
  have J46_2 : ∀ (x1 : Int32) (ls : Array Slot) (H : Heap) (locs : List Loc), x1 = (v_X7_stopDistance_no_1 V sf dm) → lv_has ls 8 [(0, .ref o), (1, .int V), (2, .int sf), (3, .int dm), (4, .int on)] → Wd D A s.heap [(o, moE g hs a b c_)] H locs → W p l e (rmD 2) s m args below meth c H locs 0 0 Q (F0 m 46 ls [.int x1]) := by
    intro x1 ls H locs ex1 hl X
    replace ex1 := ex1.symm; subst ex1
    refine s_eqi (y := 0) (hv) ?_
    refine lv_istore (lv' := [(5, .int 0), (0, .ref o), (1, .int V), (2, .int sf), (3, .int dm), (4, .int on)]) hx hb dX7_stopDistance_46 hl (by decide) rfl (fun ls hl => ?_)
    refine lv_aload_n hx hb dX7_stopDistance_48 rfl (lv_at hl 1 rfl) ?_
    refine lv_iload hx hb dX7_stopDistance_49 (lv_at hl 0 rfl) ?_
    refine lv_if_eq (tgt := 58) hx hb dX7_stopDistance_51 (by decide) (fun _ => ?_) (fun c0 => absurd (by decide) c0)
    refine lv_iconst (v := 1) hx hb dX7_stopDistance_58 (by decide) ?_
    refine s_cVi (ws' := [(o, moE (f_X7_refused_o g 1) hs a b c_)]) C hK hA X (c_X7_refused l D ty o a b c_ g hs 1) [0] (pk_c rfl pk_n) rfl (pk_c rfl pk_n) (em_t em_n) rfl ml_X7_refused wm_X7_29 (q0 := 0) rfl rfl rfl ⟨Nat.le_of_ble_eq_true rfl, Nat.le_of_ble_eq_true rfl⟩ ⟨Nat.zero_le _, Nat.zero_le _⟩ hl.1 rfl (Nat.le_of_ble_eq_true rfl) dX7_stopDistance_59 (fun H locs X => ?_)
    refine s_eqi (y := 1) (by decide) ?_
    refine lv_if_eq (tgt := 67) hx hb dX7_stopDistance_62 (by decide) (fun c0 => absurd c0 (by decide)) (fun _ => ?_)
    refine lv_iconst (v := 0) hx hb dX7_stopDistance_65 (by decide) ?_
    have e_0_0 : (f_X7_stopDistance_no_o g) = (f_X7_refused_o g 1) := by first | (rw [f_X7_stopDistance_no_o]; done) | (rw [f_X7_stopDistance_no_o]; rfl) | (simp only [f_X7_stopDistance_no_o]; done)
    exact hret _ _ _ _ _ _ dX7_stopDistance_66 X (by rw [e_0_0]) rfl
  refine lv_if_eq (tgt := 45) hx hb dX7_stopDistance_7 (by decide) (fun c0_0 => ?_) (fun c0_0 => ?_)
  · refine lv_iconst (v := 0) hx hb dX7_stopDistance_45 (by decide) ?_
    exact J46_2 0 _ _ _ (by first | (rw [v_X7_stopDistance_no_1, if_pos c0_0]; done) | (rw [v_X7_stopDistance_no_1, if_pos c0_0]; rfl) | (simp only [v_X7_stopDistance_no_1, if_pos c0_0]; done)) (lv_sub hl [0, 1, 2, 3, 4] rfl) X
  · refine lv_iload_n hx hb dX7_stopDistance_10 rfl (lv_at hl 2 rfl) ?_
    refine lv_bipush (v := 10) hx hb dX7_stopDistance_11 (by decide) ?_
    refine lv_irem hx hb dX7_stopDistance_13 (by decide) ?_
    refine s_cS0i C hK hA X (c_X7_isSurface l D ty (sf - sf / 10 * 10)) [] pk_n rfl sl_X7_isSurface wm_X7_150 ⟨Nat.le_of_ble_eq_true rfl, Nat.le_of_ble_eq_true rfl⟩ ⟨Nat.zero_le _, Nat.zero_le _⟩ hl.1 rfl (Nat.le_of_ble_eq_true rfl) dX7_stopDistance_14 (fun H locs X => ?_)
    refine lv_if_eq (tgt := 45) hx hb dX7_stopDistance_17 (by decide) (fun c1_1 => ?_) (fun c1_1 => ?_)
    · refine lv_iconst (v := 0) hx hb dX7_stopDistance_45 (by decide) ?_
      exact J46_2 0 _ _ _ (by first | (rw [v_X7_stopDistance_no_1, if_neg c0_0, if_pos c1_1]; done) | (rw [v_X7_stopDistance_no_1, if_neg c0_0, if_pos c1_1]; rfl) | (simp only [v_X7_stopDistance_no_1, if_neg c0_0, if_pos c1_1]; done)) (lv_sub hl [0, 1, 2, 3, 4] rfl) X
    · refine lv_iload_n hx hb dX7_stopDistance_20 rfl (lv_at hl 1 rfl) ?_
      refine lv_iconst (v := 0) hx hb dX7_stopDistance_21 (by decide) ?_
      refine lv_ldc hx hb C.2.2.2.1 (C.2.2.2.2 _ wk_X7_142) dX7_stopDistance_22 ?_
      refine s_cS0i C hK hA X (c_X7_within l D ty V 0 60000) [] pk_n rfl sl_X7_within wm_X7_37 ⟨Nat.le_of_ble_eq_true rfl, Nat.le_of_ble_eq_true rfl⟩ ⟨Nat.zero_le _, Nat.zero_le _⟩ hl.1 rfl (Nat.le_of_ble_eq_true rfl) dX7_stopDistance_24 (fun H locs X => ?_)
      refine lv_if_eq (tgt := 45) hx hb dX7_stopDistance_27 (by decide) (fun c2_2 => ?_) (fun c2_2 => ?_)
      · refine lv_iconst (v := 0) hx hb dX7_stopDistance_45 (by decide) ?_
        exact J46_2 0 _ _ _ (by first | (rw [v_X7_stopDistance_no_1, if_neg c0_0, if_neg c1_1, if_pos c2_2]; done) | (rw [v_X7_stopDistance_no_1, if_neg c0_0, if_neg c1_1, if_pos c2_2]; rfl) | (simp only [v_X7_stopDistance_no_1, if_neg c0_0, if_neg c1_1, if_pos c2_2]; done)) (lv_sub hl [0, 1, 2, 3, 4] rfl) X
      · refine lv_iload_n hx hb dX7_stopDistance_30 rfl (lv_at hl 3 rfl) ?_
        refine lv_iconst (v := 0) hx hb dX7_stopDistance_31 (by decide) ?_
        refine lv_sipush (v := 2000) hx hb dX7_stopDistance_32 (by decide) ?_
        refine s_cS0i C hK hA X (c_X7_within l D ty dm 0 2000) [] pk_n rfl sl_X7_within wm_X7_37 ⟨Nat.le_of_ble_eq_true rfl, Nat.le_of_ble_eq_true rfl⟩ ⟨Nat.zero_le _, Nat.zero_le _⟩ hl.1 rfl (Nat.le_of_ble_eq_true rfl) dX7_stopDistance_35 (fun H locs X => ?_)
        refine lv_if_eq (tgt := 45) hx hb dX7_stopDistance_38 (by decide) (fun c3_3 => ?_) (fun c3_3 => ?_)
        · refine lv_iconst (v := 0) hx hb dX7_stopDistance_45 (by decide) ?_
          exact J46_2 0 _ _ _ (by first | (rw [v_X7_stopDistance_no_1, if_neg c0_0, if_neg c1_1, if_neg c2_2, if_pos c3_3]; done) | (rw [v_X7_stopDistance_no_1, if_neg c0_0, if_neg c1_1, if_neg c2_2, if_pos c3_3]; rfl) | (simp only [v_X7_stopDistance_no_1, if_neg c0_0, if_neg c1_1, if_neg c2_2, if_pos c3_3]; done)) (lv_sub hl [0, 1, 2, 3, 4] rfl) X
        · refine lv_iconst (v := 1) hx hb dX7_stopDistance_41 (by decide) ?_
          refine lv_goto (tgt := 46) hx hb dX7_stopDistance_42 (by decide) ?_
          exact J46_2 1 _ _ _ (by first | (rw [v_X7_stopDistance_no_1, if_neg c0_0, if_neg c1_1, if_neg c2_2, if_neg c3_3]; done) | (rw [v_X7_stopDistance_no_1, if_neg c0_0, if_neg c1_1, if_neg c2_2, if_neg c3_3]; rfl) | (simp only [v_X7_stopDistance_no_1, if_neg c0_0, if_neg c1_1, if_neg c2_2, if_neg c3_3]; done)) (lv_sub hl [0, 1, 2, 3, 4] rfl) X
def v_X7_stopDistance_ok_1 (V : Int32) (sf : Int32) (dm : Int32) : Int32 := (if (f_X7_within sf 0 22) = 0 then 0 else (if (f_X7_isSurface (sf - sf / 10 * 10)) = 0 then 0 else (if (f_X7_within V 0 60000) = 0 then 0 else (if (f_X7_within dm 0 2000) = 0 then 0 else 1))))
def v_X7_stopDistance_ok_4 (n : F1) (V : Int32) (sf : Int32) (dm : Int32) : F1 := (upd (upd (upd (f_X7_speeds_a (f_X7_begins_a n) V) 76 (sf / 10)) 77 (sf - sf / 10 * 10)) 3 dm)
theorem okm_X7_stopDistance_ok_5 (n : F1) (V : Int32) (sf : Int32) (dm : Int32) : MOK (v_X7_stopDistance_ok_4 n V sf dm) := by
  exact (MOK_i (by decide) (MOK_s (by decide) (MOK_s (by decide) (ok_X7_speeds_a (f_X7_begins_a n) V (ok_X7_begins_a n)))))
def v_X7_stopDistance_ok_6 (on : Int32) : Int32 := (if on = 0 then 0 else 1)
def v_X7_stopDistance_ok_9 (n : F1) (qa : F1) (V : Int32) (sf : Int32) (dm : Int32) (on : Int32) (i : Nat) : F1 := (upd (va_cpy (va_cpy n qa 0 0 253) (f_X7_stops_a (upd (v_X7_stopDistance_ok_4 n V sf dm) 8 (v_X7_stopDistance_ok_6 on))) 0 0 i) i ((va_cpy n qa 0 0 253) i))
def f_X7_stopDistance_ok (n : F1) (V : Int32) (sf : Int32) (dm : Int32) (on : Int32) : Int32 := ((f_X7_stops_a (upd (v_X7_stopDistance_ok_4 n V sf dm) 8 (v_X7_stopDistance_ok_6 on))) 1)
def f_X7_stopDistance_ok_o (g : F1) : F1 := (f_X7_refused_o g 0)
def f_X7_stopDistance_ok_a (n : F1) (qa : F1) (V : Int32) (sf : Int32) (dm : Int32) (on : Int32) : F1 := (va_cpy (va_cpy n qa 0 0 253) (f_X7_stops_a (upd (v_X7_stopDistance_ok_4 n V sf dm) 8 (v_X7_stopDistance_ok_6 on))) 0 0 253)
def f_X7_stopDistance_ok_c_ (n : F1) (qa : F1) : F1 := (va_cpy n qa 0 0 253)
theorem dist_a (n qa m : F1) (k : Nat) (h : k < 253) : va_cpy (va_cpy n qa 0 0 253) m 0 0 253 k = n k := by
  unfold va_cpy; rw [if_pos (by omega), if_pos (by omega)]; congr 1; omega
theorem dist_ok {n qa : F1} {V sf dm on : Int32} (hM : MOK n) : MOK (f_X7_stopDistance_ok_a n qa V sf dm on) :=
  MOK_of hM (dist_a _ _ _ _ (by omega)) (dist_a _ _ _ _ (by omega)) (dist_a _ _ _ _ (by omega)) (fun j hj => dist_a _ _ _ _ (by omega))
theorem ok_X7_stopDistance_ok_a (n : F1) (qa : F1) (V : Int32) (sf : Int32) (dm : Int32) (on : Int32) (hM : MOK n) : MOK (f_X7_stopDistance_ok_a n qa V sf dm on) := dist_ok hM
set_option maxHeartbeats 4000000 in
set_option maxRecDepth 100000 in
theorem c_X7_stopDistance_ok (l : Launch) (D : va_G) (ty : Nat → ClassId) (o : Nat) (a : Nat) (b : Nat) (c_ : Nat) (g : F1) (hs : Int64) (n : F1) (qa : F1) (V : Int32) (sf : Int32) (dm : Int32) (on : Int32) (hM : MOK n) (hv : distOK V sf dm = 1) : MC l D ty yX7_stopDistance cX7_stopDistance 8 (some .int) 10 [.ref o, .int V, .int sf, .int dm, .int on] [(o, moE g hs a b c_), (a, arE ty 253 n), (c_, arE ty 253 qa)] (some (.int (f_X7_stopDistance_ok n V sf dm on))) [(o, moE (f_X7_stopDistance_ok_o g) hs a b c_), (a, arE ty 253 (f_X7_stopDistance_ok_a n qa V sf dm on)), (c_, arE ty 253 (f_X7_stopDistance_ok_c_ n qa))] := by
  refine mc_i (by decide +kernel) (Nat.le_of_ble_eq_true rfl) ?_
  intro p e s m args below meth c A Q ls C hK hA X hret hl
  have hx := C.1
  have hb := C.2.1
  have hl : lv_has ls 8 [(0, .ref o), (1, .int V), (2, .int sf), (3, .int dm), (4, .int on)] := hl
  have X : Wd D A s.heap [(o, moE g hs a b c_), (a, arE ty 253 n), (c_, arE ty 253 qa)] s.heap [] := X
  refine lv_iload_n hx hb dX7_stopDistance_0 rfl (lv_at hl 2 rfl) ?_
  refine lv_iconst (v := 0) hx hb dX7_stopDistance_1 (by decide) ?_
  refine lv_bipush (v := 22) hx hb dX7_stopDistance_2 (by decide) ?_
  refine s_cS0i C hK hA X (c_X7_within l D ty sf 0 22) [] pk_n rfl sl_X7_within wm_X7_37 ⟨Nat.le_of_ble_eq_true rfl, Nat.le_of_ble_eq_true rfl⟩ ⟨Nat.zero_le _, Nat.zero_le _⟩ hl.1 rfl (Nat.le_of_ble_eq_true rfl) dX7_stopDistance_4 (fun H locs X => ?_)
  have J46_2 : ∀ (x1 : Int32) (ls : Array Slot) (H : Heap) (locs : List Loc), x1 = (v_X7_stopDistance_ok_1 V sf dm) → lv_has ls 8 [(0, .ref o), (1, .int V), (2, .int sf), (3, .int dm), (4, .int on)] → Wd D A s.heap [(o, moE g hs a b c_), (a, arE ty 253 n), (c_, arE ty 253 qa)] H locs → W p l e (rmD 10) s m args below meth c H locs 0 0 Q (F0 m 46 ls [.int x1]) := by
    intro x1 ls H locs ex1 hl X
    replace ex1 := ex1.symm; subst ex1
    refine s_eqi (y := 1) (hv) ?_
    refine lv_istore (lv' := [(5, .int 1), (0, .ref o), (1, .int V), (2, .int sf), (3, .int dm), (4, .int on)]) hx hb dX7_stopDistance_46 hl (by decide) rfl (fun ls hl => ?_)
    refine lv_aload_n hx hb dX7_stopDistance_48 rfl (lv_at hl 1 rfl) ?_
    refine lv_iload hx hb dX7_stopDistance_49 (lv_at hl 0 rfl) ?_
    refine lv_if_eq (tgt := 58) hx hb dX7_stopDistance_51 (by decide) (fun c0 => absurd c0 (by decide)) (fun _ => ?_)
    refine lv_iconst (v := 0) hx hb dX7_stopDistance_54 (by decide) ?_
    refine lv_goto (tgt := 59) hx hb dX7_stopDistance_55 (by decide) ?_
    refine s_cVi (ws' := [(o, moE (f_X7_refused_o g 0) hs a b c_), (a, arE ty 253 n), (c_, arE ty 253 qa)]) C hK hA X (c_X7_refused l D ty o a b c_ g hs 0) [0] (pk_c rfl pk_n) rfl (pk_c rfl pk_n) (em_t (em_f (em_f em_n))) rfl ml_X7_refused wm_X7_29 (q0 := 0) rfl rfl rfl ⟨Nat.le_of_ble_eq_true rfl, Nat.le_of_ble_eq_true rfl⟩ ⟨Nat.zero_le _, Nat.zero_le _⟩ hl.1 rfl (Nat.le_of_ble_eq_true rfl) dX7_stopDistance_59 (fun H locs X => ?_)
    refine s_eqi (y := 0) (by decide) ?_
    refine lv_if_eq (tgt := 67) hx hb dX7_stopDistance_62 (by decide) (fun _ => ?_) (fun c0 => absurd (by decide) c0)
    refine lv_iconst (v := 0) hx hb dX7_stopDistance_67 (by decide) ?_
    refine lv_istore (lv' := [(6, .int 0), (5, .int 1), (0, .ref o), (1, .int V), (2, .int sf), (3, .int dm), (4, .int on)]) hx hb dX7_stopDistance_68 hl (by decide) rfl (fun ls hl => ?_)
    have K3 : ∀ (y3_0 : Int32) (y3_1 : F1) (ls : Array Slot) (H : Heap) (locs : List Loc), y3_0 = 253 → y3_1 = (va_cpy n qa 0 0 253) → lv_has ls 8 [(6, .int y3_0), (0, .ref o), (1, .int V), (2, .int sf), (3, .int dm), (4, .int on)] → Wd D A s.heap [(o, moE (f_X7_refused_o g 0) hs a b c_), (a, arE ty 253 n), (c_, arE ty 253 y3_1)] H locs → W p l e (rmD 10) s m args below meth c H locs 0 0 Q (F0 m 98 ls []) := by
      intro y3_0 y3_1 ls H locs ey3_0 ey3_1 hl X
      replace ey3_0 := ey3_0.symm; subst ey3_0; replace ey3_1 := ey3_1.symm; subst ey3_1
      refine lv_aload_n hx hb dX7_stopDistance_98 rfl (lv_at hl 1 rfl) ?_
      refine s_cVv (ws' := [(o, moE (f_X7_refused_o g 0) hs a b c_), (a, arE ty 253 (f_X7_begins_a n)), (c_, arE ty 253 (va_cpy n qa 0 0 253))]) C hK hA X (c_X7_begins l D ty o a b c_ (f_X7_refused_o g 0) hs n) [0, 1] (pk_c rfl (pk_c rfl pk_n)) rfl (pk_c rfl (pk_c rfl pk_n)) (em_t (em_t (em_f em_n))) rfl ml_X7_begins wm_X7_19 (q0 := 0) rfl rfl rfl ⟨Nat.le_of_ble_eq_true rfl, Nat.le_of_ble_eq_true rfl⟩ ⟨Nat.zero_le _, Nat.zero_le _⟩ hl.1 rfl (Nat.le_of_ble_eq_true rfl) dX7_stopDistance_99 (fun H locs X => ?_)
      refine lv_aload_n hx hb dX7_stopDistance_102 rfl (lv_at hl 1 rfl) ?_
      refine lv_iload_n hx hb dX7_stopDistance_103 rfl (lv_at hl 2 rfl) ?_
      refine s_cVv (ws' := [(o, moE (f_X7_refused_o g 0) hs a b c_), (a, arE ty 253 (f_X7_speeds_a (f_X7_begins_a n) V)), (c_, arE ty 253 (va_cpy n qa 0 0 253))]) C hK hA X (c_X7_speeds l D ty o a b c_ (f_X7_refused_o g 0) hs (f_X7_begins_a n) V (ok_X7_begins_a n)) [0, 1] (pk_c rfl (pk_c rfl pk_n)) rfl (pk_c rfl (pk_c rfl pk_n)) (em_t (em_t (em_f em_n))) rfl ml_X7_speeds wm_X7_146 (q0 := 0) rfl rfl rfl ⟨Nat.le_of_ble_eq_true rfl, Nat.le_of_ble_eq_true rfl⟩ ⟨Nat.zero_le _, Nat.zero_le _⟩ hl.1 rfl (Nat.le_of_ble_eq_true rfl) dX7_stopDistance_104 (fun H locs X => ?_)
      refine lv_aload_n hx hb dX7_stopDistance_107 rfl (lv_at hl 1 rfl) ?_
      refine get_mo_0 C hK X 0 rfl fl_X7_7 dX7_stopDistance_108 ?_
      refine lv_bipush (v := 76) hx hb dX7_stopDistance_111 (by decide) ?_
      refine lv_iload_n hx hb dX7_stopDistance_113 rfl (lv_at hl 3 rfl) ?_
      refine lv_bipush (v := 10) hx hb dX7_stopDistance_114 (by decide) ?_
      refine lv_idiv hx hb dX7_stopDistance_116 (by decide) ?_
      refine s_iasN C hK X 1 76 rfl rfl (by decide) (by decide) dX7_stopDistance_117 (fun H locs X => ?_)
      have X : Wd D A s.heap [(o, moE (f_X7_refused_o g 0) hs a b c_), (a, arE ty 253 (upd (f_X7_speeds_a (f_X7_begins_a n) V) 76 (sf / 10))), (c_, arE ty 253 (va_cpy n qa 0 0 253))] H locs := X
      refine lv_aload_n hx hb dX7_stopDistance_118 rfl (lv_at hl 1 rfl) ?_
      refine get_mo_0 C hK X 0 rfl fl_X7_7 dX7_stopDistance_119 ?_
      refine lv_bipush (v := 77) hx hb dX7_stopDistance_122 (by decide) ?_
      refine lv_iload_n hx hb dX7_stopDistance_124 rfl (lv_at hl 3 rfl) ?_
      refine lv_bipush (v := 10) hx hb dX7_stopDistance_125 (by decide) ?_
      refine lv_irem hx hb dX7_stopDistance_127 (by decide) ?_
      refine s_iasN C hK X 1 77 rfl rfl (by decide) (by decide) dX7_stopDistance_128 (fun H locs X => ?_)
      have X : Wd D A s.heap [(o, moE (f_X7_refused_o g 0) hs a b c_), (a, arE ty 253 (upd (upd (f_X7_speeds_a (f_X7_begins_a n) V) 76 (sf / 10)) 77 (sf - sf / 10 * 10))), (c_, arE ty 253 (va_cpy n qa 0 0 253))] H locs := X
      refine lv_aload_n hx hb dX7_stopDistance_129 rfl (lv_at hl 1 rfl) ?_
      refine get_mo_0 C hK X 0 rfl fl_X7_7 dX7_stopDistance_130 ?_
      refine lv_iconst (v := 3) hx hb dX7_stopDistance_133 (by decide) ?_
      refine lv_iload_n hx hb dX7_stopDistance_134 rfl (lv_at hl 4 rfl) ?_
      refine s_iasN C hK X 1 3 rfl rfl (by decide) (by decide) dX7_stopDistance_135 (fun H locs X => ?_)
      have X : Wd D A s.heap [(o, moE (f_X7_refused_o g 0) hs a b c_), (a, arE ty 253 (v_X7_stopDistance_ok_4 n V sf dm)), (c_, arE ty 253 (va_cpy n qa 0 0 253))] H locs := X
      refine lv_aload_n hx hb dX7_stopDistance_136 rfl (lv_at hl 1 rfl) ?_
      refine get_mo_0 C hK X 0 rfl fl_X7_7 dX7_stopDistance_137 ?_
      refine lv_bipush (v := 8) hx hb dX7_stopDistance_140 (by decide) ?_
      refine lv_iload hx hb dX7_stopDistance_142 (lv_at hl 5 rfl) ?_
      have J152_7 : ∀ (x6 : Int32) (ls : Array Slot) (H : Heap) (locs : List Loc), x6 = (v_X7_stopDistance_ok_6 on) → lv_has ls 8 [(6, .int 253), (0, .ref o), (1, .int V), (2, .int sf), (3, .int dm), (4, .int on)] → Wd D A s.heap [(o, moE (f_X7_refused_o g 0) hs a b c_), (a, arE ty 253 (v_X7_stopDistance_ok_4 n V sf dm)), (c_, arE ty 253 (va_cpy n qa 0 0 253))] H locs → W p l e (rmD 10) s m args below meth c H locs 0 0 Q (F0 m 152 ls [.int x6, .int 8, .ref a]) := by
        intro x6 ls H locs ex6 hl X
        replace ex6 := ex6.symm; subst ex6
        refine s_iasN C hK X 1 8 rfl rfl (by decide) (by decide) dX7_stopDistance_152 (fun H locs X => ?_)
        have X : Wd D A s.heap [(o, moE (f_X7_refused_o g 0) hs a b c_), (a, arE ty 253 (upd (v_X7_stopDistance_ok_4 n V sf dm) 8 (v_X7_stopDistance_ok_6 on))), (c_, arE ty 253 (va_cpy n qa 0 0 253))] H locs := X
        refine lv_aload_n hx hb dX7_stopDistance_153 rfl (lv_at hl 1 rfl) ?_
        refine s_cVi (ws' := [(o, moE (f_X7_refused_o g 0) hs a b c_), (a, arE ty 253 (f_X7_stops_a (upd (v_X7_stopDistance_ok_4 n V sf dm) 8 (v_X7_stopDistance_ok_6 on)))), (c_, arE ty 253 (va_cpy n qa 0 0 253))]) C hK hA X (c_X7_stops l D ty o a b c_ (f_X7_refused_o g 0) hs (upd (v_X7_stopDistance_ok_4 n V sf dm) 8 (v_X7_stopDistance_ok_6 on)) (MOK_i (by decide) (okm_X7_stopDistance_ok_5 n V sf dm))) [0, 1] (pk_c rfl (pk_c rfl pk_n)) rfl (pk_c rfl (pk_c rfl pk_n)) (em_t (em_t (em_f em_n))) rfl ml_X7_stops wm_X7_159 (q0 := 0) rfl rfl rfl ⟨Nat.le_of_ble_eq_true rfl, Nat.le_of_ble_eq_true rfl⟩ ⟨Nat.zero_le _, Nat.zero_le _⟩ hl.1 rfl (Nat.le_of_ble_eq_true rfl) dX7_stopDistance_154 (fun H locs X => ?_)
        refine lv_pop hx hb dX7_stopDistance_157 rfl ?_
        refine lv_aload_n hx hb dX7_stopDistance_158 rfl (lv_at hl 1 rfl) ?_
        refine get_mo_0 C hK X 0 rfl fl_X7_7 dX7_stopDistance_159 ?_
        refine lv_iconst (v := 1) hx hb dX7_stopDistance_162 (by decide) ?_
        refine s_ialN C hK X 1 1 rfl rfl (by decide) (by decide) dX7_stopDistance_163 ?_
        refine lv_istore (lv' := [(6, .int ((f_X7_stops_a (upd (v_X7_stopDistance_ok_4 n V sf dm) 8 (v_X7_stopDistance_ok_6 on))) 1)), (0, .ref o), (1, .int V), (2, .int sf), (3, .int dm), (4, .int on)]) hx hb dX7_stopDistance_164 hl (by decide) rfl (fun ls hl => ?_)
        refine lv_iconst (v := 0) hx hb dX7_stopDistance_166 (by decide) ?_
        refine lv_istore (lv' := [(7, .int 0), (6, .int ((f_X7_stops_a (upd (v_X7_stopDistance_ok_4 n V sf dm) 8 (v_X7_stopDistance_ok_6 on))) 1)), (0, .ref o), (1, .int V), (2, .int sf), (3, .int dm), (4, .int on)]) hx hb dX7_stopDistance_167 hl (by decide) rfl (fun ls hl => ?_)
        have K8 : ∀ (y8_0 : Int32) (y8_1 : F1) (ls : Array Slot) (H : Heap) (locs : List Loc), y8_0 = 253 → y8_1 = (va_cpy (va_cpy n qa 0 0 253) (f_X7_stops_a (upd (v_X7_stopDistance_ok_4 n V sf dm) 8 (v_X7_stopDistance_ok_6 on))) 0 0 253) → lv_has ls 8 [(7, .int y8_0), (6, .int ((f_X7_stops_a (upd (v_X7_stopDistance_ok_4 n V sf dm) 8 (v_X7_stopDistance_ok_6 on))) 1)), (0, .ref o)] → Wd D A s.heap [(o, moE (f_X7_refused_o g 0) hs a b c_), (a, arE ty 253 y8_1), (c_, arE ty 253 (va_cpy n qa 0 0 253))] H locs → W p l e (rmD 10) s m args below meth c H locs 0 0 Q (F0 m 197 ls []) := by
          intro y8_0 y8_1 ls H locs ey8_0 ey8_1 hl X
          replace ey8_0 := ey8_0.symm; subst ey8_0; replace ey8_1 := ey8_1.symm; subst ey8_1
          refine lv_iload hx hb dX7_stopDistance_197 (lv_at hl 1 rfl) ?_
          have e_0_0 : (f_X7_stopDistance_ok_o g) = (f_X7_refused_o g 0) := by first | (rw [f_X7_stopDistance_ok_o]; done) | (rw [f_X7_stopDistance_ok_o]; rfl) | (simp only [f_X7_stopDistance_ok_o]; done)
          have e_1_0 : (f_X7_stopDistance_ok_a n qa V sf dm on) = (va_cpy (va_cpy n qa 0 0 253) (f_X7_stops_a (upd (v_X7_stopDistance_ok_4 n V sf dm) 8 (v_X7_stopDistance_ok_6 on))) 0 0 253) := by first | (rw [f_X7_stopDistance_ok_a]; done) | (rw [f_X7_stopDistance_ok_a]; rfl) | (simp only [f_X7_stopDistance_ok_a]; done)
          have e_2_1 : (f_X7_stopDistance_ok_c_ n qa) = (va_cpy n qa 0 0 253) := by first | (rw [f_X7_stopDistance_ok_c_]; done) | (rw [f_X7_stopDistance_ok_c_]; rfl) | (simp only [f_X7_stopDistance_ok_c_]; done)
          exact hret _ _ _ _ _ _ dX7_stopDistance_199 X (by rw [e_0_0, e_1_0, e_2_1]) (by first | (rw [f_X7_stopDistance_ok]; done) | (rw [f_X7_stopDistance_ok]; rfl) | (simp only [f_X7_stopDistance_ok]; done))
        have L8 : ∀ (kf i : Nat) (y8_0 : Int32) (y8_1 : F1) (ls : Array Slot) (H : Heap) (locs : List Loc), 253 - i < kf → (i ≤ 253) → y8_0 = (nI i) → y8_1 = (va_cpy (va_cpy n qa 0 0 253) (f_X7_stops_a (upd (v_X7_stopDistance_ok_4 n V sf dm) 8 (v_X7_stopDistance_ok_6 on))) 0 0 i) → lv_has ls 8 [(7, .int y8_0), (6, .int ((f_X7_stops_a (upd (v_X7_stopDistance_ok_4 n V sf dm) 8 (v_X7_stopDistance_ok_6 on))) 1)), (0, .ref o)] → Wd D A s.heap [(o, moE (f_X7_refused_o g 0) hs a b c_), (a, arE ty 253 y8_1), (c_, arE ty 253 (va_cpy n qa 0 0 253))] H locs → W p l e (rmD 10) s m args below meth c H locs 0 0 Q (F0 m 169 ls []) := by
          intro kf
          induction kf with
          | zero => intro i y8_0 y8_1 ls H locs hk; exact absurd hk (Nat.not_lt_zero _)
          | succ kf ih8 =>
            intro i y8_0 y8_1 ls H locs hk hI ey8_0 ey8_1 hl X
            replace ey8_0 := ey8_0.symm; subst ey8_0; replace ey8_1 := ey8_1.symm; subst ey8_1
            refine lv_iload hx hb dX7_stopDistance_169 (lv_at hl 0 rfl) ?_
            refine lv_sipush (v := 253) hx hb dX7_stopDistance_171 (by decide) ?_
            refine lv_icmp_ge (tgt := 197) hx hb dX7_stopDistance_174 (by decide) (fun c0_0 => ?_) (fun c0_0 => ?_)
            · have hE : i = 253 := eq_of_nIle (a := 253) (by decide) (by omega) hI c0_0
              exact K8 (nI i) (va_cpy (va_cpy n qa 0 0 253) (f_X7_stops_a (upd (v_X7_stopDistance_ok_4 n V sf dm) 8 (v_X7_stopDistance_ok_6 on))) 0 0 i) _ _ _ (by rw [hE]; rfl) (by rw [hE]) (lv_sub hl [0, 1, 2] rfl) X
            · have h1 : i < 253 := lt_of_nnIle (a := 253) (b := i) (by decide) (by omega) c0_0
              refine lv_aload_n hx hb dX7_stopDistance_177 rfl (lv_at hl 2 rfl) ?_
              refine get_mo_0 C hK X 0 rfl fl_X7_7 dX7_stopDistance_178 ?_
              refine lv_iload hx hb dX7_stopDistance_181 (lv_at hl 0 rfl) ?_
              refine lv_aload_n hx hb dX7_stopDistance_183 rfl (lv_at hl 2 rfl) ?_
              refine get_mo_2 C hK X 0 rfl fl_X7_16 dX7_stopDistance_184 ?_
              refine lv_iload hx hb dX7_stopDistance_187 (lv_at hl 0 rfl) ?_
              refine s_ialN C hK X 2 i rfl rfl h1 (by decide) dX7_stopDistance_189 ?_
              refine s_iasN C hK X 1 i rfl rfl h1 (by decide) dX7_stopDistance_190 (fun H locs X => ?_)
              have X : Wd D A s.heap [(o, moE (f_X7_refused_o g 0) hs a b c_), (a, arE ty 253 (v_X7_stopDistance_ok_9 n qa V sf dm on i)), (c_, arE ty 253 (va_cpy n qa 0 0 253))] H locs := X
              refine lv_iinc (v := ((nI i) + 1)) (lv' := [(7, .int ((nI i) + 1)), (6, .int ((f_X7_stops_a (upd (v_X7_stopDistance_ok_4 n V sf dm) 8 (v_X7_stopDistance_ok_6 on))) 1)), (0, .ref o)]) hx hb dX7_stopDistance_191 hl (k := 0) rfl rfl (by decide) rfl (fun ls hl => ?_)
              refine lv_goto (tgt := 169) hx hb dX7_stopDistance_194 (by decide) ?_
              have h1 : i < 253 := lt_of_nnIle (a := 253) (b := i) (by decide) (by omega) c0_0
              exact ih8 (i + 1) ((nI i) + 1) (v_X7_stopDistance_ok_9 n qa V sf dm on i) _ _ _ (by omega) (by omega) (nI_1 i) cpy_step00 (lv_sub hl [0, 1, 2] rfl) X
        exact L8 (253 + 1) 0 0 (f_X7_stops_a (upd (v_X7_stopDistance_ok_4 n V sf dm) 8 (v_X7_stopDistance_ok_6 on))) _ _ _ (by omega) (Nat.zero_le _) rfl cpy_0.symm (lv_sub hl [0, 1, 2] rfl) X
      refine lv_if_eq (tgt := 151) hx hb dX7_stopDistance_144 (by decide) (fun c0_0 => ?_) (fun c0_0 => ?_)
      · refine lv_iconst (v := 0) hx hb dX7_stopDistance_151 (by decide) ?_
        exact J152_7 0 _ _ _ (by first | (rw [v_X7_stopDistance_ok_6, if_pos c0_0]; done) | (rw [v_X7_stopDistance_ok_6, if_pos c0_0]; rfl) | (simp only [v_X7_stopDistance_ok_6, if_pos c0_0]; done)) (lv_sub hl [0, 1, 2, 3, 4, 5] rfl) X
      · refine lv_iconst (v := 1) hx hb dX7_stopDistance_147 (by decide) ?_
        refine lv_goto (tgt := 152) hx hb dX7_stopDistance_148 (by decide) ?_
        exact J152_7 1 _ _ _ (by first | (rw [v_X7_stopDistance_ok_6, if_neg c0_0]; done) | (rw [v_X7_stopDistance_ok_6, if_neg c0_0]; rfl) | (simp only [v_X7_stopDistance_ok_6, if_neg c0_0]; done)) (lv_sub hl [0, 1, 2, 3, 4, 5] rfl) X
    have L3 : ∀ (kf i : Nat) (y3_0 : Int32) (y3_1 : F1) (ls : Array Slot) (H : Heap) (locs : List Loc), 253 - i < kf → (i ≤ 253) → y3_0 = (nI i) → y3_1 = (va_cpy n qa 0 0 i) → lv_has ls 8 [(6, .int y3_0), (0, .ref o), (1, .int V), (2, .int sf), (3, .int dm), (4, .int on)] → Wd D A s.heap [(o, moE (f_X7_refused_o g 0) hs a b c_), (a, arE ty 253 n), (c_, arE ty 253 y3_1)] H locs → W p l e (rmD 10) s m args below meth c H locs 0 0 Q (F0 m 70 ls []) := by
      intro kf
      induction kf with
      | zero => intro i y3_0 y3_1 ls H locs hk; exact absurd hk (Nat.not_lt_zero _)
      | succ kf ih3 =>
        intro i y3_0 y3_1 ls H locs hk hI ey3_0 ey3_1 hl X
        replace ey3_0 := ey3_0.symm; subst ey3_0; replace ey3_1 := ey3_1.symm; subst ey3_1
        refine lv_iload hx hb dX7_stopDistance_70 (lv_at hl 0 rfl) ?_
        refine lv_sipush (v := 253) hx hb dX7_stopDistance_72 (by decide) ?_
        refine lv_icmp_ge (tgt := 98) hx hb dX7_stopDistance_75 (by decide) (fun c0_0 => ?_) (fun c0_0 => ?_)
        · have hE : i = 253 := eq_of_nIle (a := 253) (by decide) (by omega) hI c0_0
          exact K3 (nI i) (va_cpy n qa 0 0 i) _ _ _ (by rw [hE]; rfl) (by rw [hE]) (lv_sub hl [0, 1, 2, 3, 4, 5] rfl) X
        · have h1 : i < 253 := lt_of_nnIle (a := 253) (b := i) (by decide) (by omega) c0_0
          refine lv_aload_n hx hb dX7_stopDistance_78 rfl (lv_at hl 1 rfl) ?_
          refine get_mo_2 C hK X 0 rfl fl_X7_16 dX7_stopDistance_79 ?_
          refine lv_iload hx hb dX7_stopDistance_82 (lv_at hl 0 rfl) ?_
          refine lv_aload_n hx hb dX7_stopDistance_84 rfl (lv_at hl 1 rfl) ?_
          refine get_mo_0 C hK X 0 rfl fl_X7_7 dX7_stopDistance_85 ?_
          refine lv_iload hx hb dX7_stopDistance_88 (lv_at hl 0 rfl) ?_
          refine s_ialN C hK X 1 i rfl rfl h1 (by decide) dX7_stopDistance_90 ?_
          refine s_iasN C hK X 2 i rfl rfl h1 (by decide) dX7_stopDistance_91 (fun H locs X => ?_)
          have X : Wd D A s.heap [(o, moE (f_X7_refused_o g 0) hs a b c_), (a, arE ty 253 n), (c_, arE ty 253 (upd (va_cpy n qa 0 0 i) i (n i)))] H locs := X
          refine lv_iinc (v := ((nI i) + 1)) (lv' := [(6, .int ((nI i) + 1)), (0, .ref o), (1, .int V), (2, .int sf), (3, .int dm), (4, .int on)]) hx hb dX7_stopDistance_92 hl (k := 0) rfl rfl (by decide) rfl (fun ls hl => ?_)
          refine lv_goto (tgt := 70) hx hb dX7_stopDistance_95 (by decide) ?_
          have h1 : i < 253 := lt_of_nnIle (a := 253) (b := i) (by decide) (by omega) c0_0
          exact ih3 (i + 1) ((nI i) + 1) (upd (va_cpy n qa 0 0 i) i (n i)) _ _ _ (by omega) (by omega) (nI_1 i) cpy_step00 (lv_sub hl [0, 1, 2, 3, 4, 5] rfl) X
    exact L3 (253 + 1) 0 0 qa _ _ _ (by omega) (Nat.zero_le _) rfl cpy_0.symm (lv_sub hl [0, 2, 3, 4, 5, 6] rfl) X
  refine lv_if_eq (tgt := 45) hx hb dX7_stopDistance_7 (by decide) (fun c0_0 => ?_) (fun c0_0 => ?_)
  · refine lv_iconst (v := 0) hx hb dX7_stopDistance_45 (by decide) ?_
    exact J46_2 0 _ _ _ (by first | (rw [v_X7_stopDistance_ok_1, if_pos c0_0]; done) | (rw [v_X7_stopDistance_ok_1, if_pos c0_0]; rfl) | (simp only [v_X7_stopDistance_ok_1, if_pos c0_0]; done)) (lv_sub hl [0, 1, 2, 3, 4] rfl) X
  · refine lv_iload_n hx hb dX7_stopDistance_10 rfl (lv_at hl 2 rfl) ?_
    refine lv_bipush (v := 10) hx hb dX7_stopDistance_11 (by decide) ?_
    refine lv_irem hx hb dX7_stopDistance_13 (by decide) ?_
    refine s_cS0i C hK hA X (c_X7_isSurface l D ty (sf - sf / 10 * 10)) [] pk_n rfl sl_X7_isSurface wm_X7_150 ⟨Nat.le_of_ble_eq_true rfl, Nat.le_of_ble_eq_true rfl⟩ ⟨Nat.zero_le _, Nat.zero_le _⟩ hl.1 rfl (Nat.le_of_ble_eq_true rfl) dX7_stopDistance_14 (fun H locs X => ?_)
    refine lv_if_eq (tgt := 45) hx hb dX7_stopDistance_17 (by decide) (fun c1_1 => ?_) (fun c1_1 => ?_)
    · refine lv_iconst (v := 0) hx hb dX7_stopDistance_45 (by decide) ?_
      exact J46_2 0 _ _ _ (by first | (rw [v_X7_stopDistance_ok_1, if_neg c0_0, if_pos c1_1]; done) | (rw [v_X7_stopDistance_ok_1, if_neg c0_0, if_pos c1_1]; rfl) | (simp only [v_X7_stopDistance_ok_1, if_neg c0_0, if_pos c1_1]; done)) (lv_sub hl [0, 1, 2, 3, 4] rfl) X
    · refine lv_iload_n hx hb dX7_stopDistance_20 rfl (lv_at hl 1 rfl) ?_
      refine lv_iconst (v := 0) hx hb dX7_stopDistance_21 (by decide) ?_
      refine lv_ldc hx hb C.2.2.2.1 (C.2.2.2.2 _ wk_X7_142) dX7_stopDistance_22 ?_
      refine s_cS0i C hK hA X (c_X7_within l D ty V 0 60000) [] pk_n rfl sl_X7_within wm_X7_37 ⟨Nat.le_of_ble_eq_true rfl, Nat.le_of_ble_eq_true rfl⟩ ⟨Nat.zero_le _, Nat.zero_le _⟩ hl.1 rfl (Nat.le_of_ble_eq_true rfl) dX7_stopDistance_24 (fun H locs X => ?_)
      refine lv_if_eq (tgt := 45) hx hb dX7_stopDistance_27 (by decide) (fun c2_2 => ?_) (fun c2_2 => ?_)
      · refine lv_iconst (v := 0) hx hb dX7_stopDistance_45 (by decide) ?_
        exact J46_2 0 _ _ _ (by first | (rw [v_X7_stopDistance_ok_1, if_neg c0_0, if_neg c1_1, if_pos c2_2]; done) | (rw [v_X7_stopDistance_ok_1, if_neg c0_0, if_neg c1_1, if_pos c2_2]; rfl) | (simp only [v_X7_stopDistance_ok_1, if_neg c0_0, if_neg c1_1, if_pos c2_2]; done)) (lv_sub hl [0, 1, 2, 3, 4] rfl) X
      · refine lv_iload_n hx hb dX7_stopDistance_30 rfl (lv_at hl 3 rfl) ?_
        refine lv_iconst (v := 0) hx hb dX7_stopDistance_31 (by decide) ?_
        refine lv_sipush (v := 2000) hx hb dX7_stopDistance_32 (by decide) ?_
        refine s_cS0i C hK hA X (c_X7_within l D ty dm 0 2000) [] pk_n rfl sl_X7_within wm_X7_37 ⟨Nat.le_of_ble_eq_true rfl, Nat.le_of_ble_eq_true rfl⟩ ⟨Nat.zero_le _, Nat.zero_le _⟩ hl.1 rfl (Nat.le_of_ble_eq_true rfl) dX7_stopDistance_35 (fun H locs X => ?_)
        refine lv_if_eq (tgt := 45) hx hb dX7_stopDistance_38 (by decide) (fun c3_3 => ?_) (fun c3_3 => ?_)
        · refine lv_iconst (v := 0) hx hb dX7_stopDistance_45 (by decide) ?_
          exact J46_2 0 _ _ _ (by first | (rw [v_X7_stopDistance_ok_1, if_neg c0_0, if_neg c1_1, if_neg c2_2, if_pos c3_3]; done) | (rw [v_X7_stopDistance_ok_1, if_neg c0_0, if_neg c1_1, if_neg c2_2, if_pos c3_3]; rfl) | (simp only [v_X7_stopDistance_ok_1, if_neg c0_0, if_neg c1_1, if_neg c2_2, if_pos c3_3]; done)) (lv_sub hl [0, 1, 2, 3, 4] rfl) X
        · refine lv_iconst (v := 1) hx hb dX7_stopDistance_41 (by decide) ?_
          refine lv_goto (tgt := 46) hx hb dX7_stopDistance_42 (by decide) ?_
          exact J46_2 1 _ _ _ (by first | (rw [v_X7_stopDistance_ok_1, if_neg c0_0, if_neg c1_1, if_neg c2_2, if_neg c3_3]; done) | (rw [v_X7_stopDistance_ok_1, if_neg c0_0, if_neg c1_1, if_neg c2_2, if_neg c3_3]; rfl) | (simp only [v_X7_stopDistance_ok_1, if_neg c0_0, if_neg c1_1, if_neg c2_2, if_neg c3_3]; done)) (lv_sub hl [0, 1, 2, 3, 4] rfl) X
def mixR (n : F1) (fr : Nat) (h : Int64) : Nat → Int64
  | 0 => h
  | i + 1 => f_X7_mix_o_h (mixR n fr h i) (n (fr + i))
def mixC (n : F1) (h : Int64) : Nat → Int64
  | 0 => h
  | i + 1 => f_X7_mix_o_h (mixC n h i) (f_X7_tellCar n i)
def mixW (n : F1) (j : Nat) (h : Int64) : Nat → Int64
  | 0 => h
  | i + 1 => f_X7_mix_o_h (mixW n j h i) (f_X7_tellWheel n j i)
def f_X7_mixAll_o_h (hs : Int64) (n : F1) (fr : Nat) (mn_ : Nat) : Int64 := (mixR n fr hs mn_)
set_option maxHeartbeats 4000000 in
set_option maxRecDepth 100000 in
theorem c_X7_mixAll (l : Launch) (D : va_G) (ty : Nat → ClassId) (o : Nat) (a : Nat) (b : Nat) (c_ : Nat) (g : F1) (hs : Int64) (n : F1) (fr : Nat) (mn_ : Nat) (hfm : fr + mn_ ≤ 253) : MC l D ty yX7_mixAll cX7_mixAll 4 none 1 [.ref o, .int (nI fr), .int (nI mn_)] [(o, moE g hs a b c_), (a, arE ty 253 n)] none [(o, moE g (f_X7_mixAll_o_h hs n fr mn_) a b c_), (a, arE ty 253 n)] := by
  refine mc_v (by decide +kernel) (Nat.le_of_ble_eq_true rfl) ?_
  intro p e s m args below meth c A Q ls C hK hA X hret hl
  have hx := C.1
  have hb := C.2.1
  have hl : lv_has ls 4 [(0, .ref o), (1, .int (nI fr)), (2, .int (nI mn_))] := hl
  have X : Wd D A s.heap [(o, moE g hs a b c_), (a, arE ty 253 n)] s.heap [] := X
  refine lv_iload_n hx hb dX7_mixAll_0 rfl (lv_at hl 1 rfl) ?_
  refine lv_istore_n (lv' := [(3, .int (nI fr)), (0, .ref o), (1, .int (nI fr)), (2, .int (nI mn_))]) hx hb dX7_mixAll_1 rfl hl (by decide) rfl (fun ls hl => ?_)
  have K1 : ∀ (y1_0 : Int32) (y1_1 : Int64) (ls : Array Slot) (H : Heap) (locs : List Loc), y1_0 = (nI (fr + mn_)) → y1_1 = (mixR n fr hs mn_) → lv_has ls 4 [(3, .int y1_0), (0, .ref o), (1, .int (nI fr)), (2, .int (nI mn_))] → Wd D A s.heap [(o, moE g y1_1 a b c_), (a, arE ty 253 n)] H locs → W p l e (rmD 1) s m args below meth c H locs 0 0 Q (F0 m 25 ls []) := by
    intro y1_0 y1_1 ls H locs ey1_0 ey1_1 hl X
    replace ey1_0 := ey1_0.symm; subst ey1_0; replace ey1_1 := ey1_1.symm; subst ey1_1
    have e_0_1 : (f_X7_mixAll_o_h hs n fr mn_) = (mixR n fr hs mn_) := by first | (rw [f_X7_mixAll_o_h]; done) | (rw [f_X7_mixAll_o_h]; rfl) | (simp only [f_X7_mixAll_o_h]; done)
    exact hret _ _ _ _ _ dX7_mixAll_25 X (by rw [e_0_1])
  have L1 : ∀ (kf i : Nat) (y1_0 : Int32) (y1_1 : Int64) (ls : Array Slot) (H : Heap) (locs : List Loc), mn_ - i < kf → (i ≤ mn_) → y1_0 = (nI (fr + i)) → y1_1 = (mixR n fr hs i) → lv_has ls 4 [(3, .int y1_0), (0, .ref o), (1, .int (nI fr)), (2, .int (nI mn_))] → Wd D A s.heap [(o, moE g y1_1 a b c_), (a, arE ty 253 n)] H locs → W p l e (rmD 1) s m args below meth c H locs 0 0 Q (F0 m 2 ls []) := by
    intro kf
    induction kf with
    | zero => intro i y1_0 y1_1 ls H locs hk; exact absurd hk (Nat.not_lt_zero _)
    | succ kf ih1 =>
      intro i y1_0 y1_1 ls H locs hk hI ey1_0 ey1_1 hl X
      replace ey1_0 := ey1_0.symm; subst ey1_0; replace ey1_1 := ey1_1.symm; subst ey1_1
      refine lv_iload_n hx hb dX7_mixAll_2 rfl (lv_at hl 0 rfl) ?_
      refine lv_iload_n hx hb dX7_mixAll_3 rfl (lv_at hl 2 rfl) ?_
      refine lv_iload_n hx hb dX7_mixAll_4 rfl (lv_at hl 3 rfl) ?_
      refine lv_iadd hx hb dX7_mixAll_5 ?_
      refine s_eqi (y := nI (fr + mn_)) (nI_add _ _) ?_
      refine lv_icmp_ge (tgt := 25) hx hb dX7_mixAll_6 (by decide) (fun c0_0 => ?_) (fun c0_0 => ?_)
      · have hE : i = mn_ := by have := (nI_leI (a := fr + mn_) (b := fr + i) (by omega) (by omega)).mp c0_0; omega
        exact K1 (nI (fr + i)) (mixR n fr hs i) _ _ _ (by rw [hE]) (by rw [hE]) (lv_sub hl [0, 1, 2, 3] rfl) X
      · have h1 : i < mn_ := by have := lt_of_nnIle (a := fr + mn_) (b := fr + i) (by omega) (by omega) c0_0; omega
        refine lv_aload_n hx hb dX7_mixAll_9 rfl (lv_at hl 1 rfl) ?_
        refine lv_aload_n hx hb dX7_mixAll_10 rfl (lv_at hl 1 rfl) ?_
        refine get_mo_0 C hK X 0 rfl fl_X7_7 dX7_mixAll_11 ?_
        refine lv_iload_n hx hb dX7_mixAll_14 rfl (lv_at hl 0 rfl) ?_
        refine s_ialN C hK X 1 (fr + i) rfl rfl (by omega) (by decide) dX7_mixAll_15 ?_
        refine s_cVv (ws' := [(o, moE g (f_X7_mix_o_h (mixR n fr hs i) (n (fr + i))) a b c_), (a, arE ty 253 n)]) C hK hA X (c_X7_mix l D ty o a b c_ g (mixR n fr hs i) (n (fr + i))) [0] (pk_c rfl pk_n) rfl (pk_c rfl pk_n) (em_t (em_f em_n)) rfl ml_X7_mix wm_X7_174 (q0 := 0) rfl rfl rfl ⟨Nat.le_of_ble_eq_true rfl, Nat.le_of_ble_eq_true rfl⟩ ⟨Nat.zero_le _, Nat.zero_le _⟩ hl.1 rfl (Nat.le_of_ble_eq_true rfl) dX7_mixAll_16 (fun H locs X => ?_)
        refine lv_iinc (v := ((nI (fr + i)) + 1)) (lv' := [(3, .int ((nI (fr + i)) + 1)), (0, .ref o), (1, .int (nI fr)), (2, .int (nI mn_))]) hx hb dX7_mixAll_19 hl (k := 0) rfl rfl (by decide) rfl (fun ls hl => ?_)
        refine lv_goto (tgt := 2) hx hb dX7_mixAll_22 (by decide) ?_
        have h1 : i < mn_ := by have := lt_of_nnIle (a := fr + mn_) (b := fr + i) (by omega) (by omega) c0_0; omega
        exact ih1 (i + 1) ((nI (fr + i)) + 1) (f_X7_mix_o_h (mixR n fr hs i) (n (fr + i))) _ _ _ (by omega) (by omega) (nI_1 _) rfl (lv_sub hl [0, 1, 2, 3] rfl) X
  exact L1 (mn_ + 1) 0 (nI fr) hs _ _ _ (by omega) (Nat.zero_le _) rfl rfl (lv_sub hl [0, 1, 2, 3] rfl) X
def v_X7_digest_3 (g : F1) (n : F1) : Int64 := (f_X7_mix_o_h (f_X7_mix_o_h (mixW n 0 (mixC n (f_X7_mix_o_h 19707 (g 0)) 10) 12) (f_X7_frictionAt n 0)) (n 19))
def v_X7_digest_5 (g : F1) (n : F1) : Int64 := (f_X7_mix_o_h (f_X7_mix_o_h (mixW n 1 (v_X7_digest_3 g n) 12) (f_X7_frictionAt n 1)) (n 35))
def v_X7_digest_7 (g : F1) (n : F1) : Int64 := (f_X7_mix_o_h (f_X7_mix_o_h (mixW n 2 (v_X7_digest_5 g n) 12) (f_X7_frictionAt n 2)) (n 51))
def v_X7_digest_9 (g : F1) (n : F1) : Int64 := (f_X7_mix_o_h (f_X7_mix_o_h (mixW n 3 (v_X7_digest_7 g n) 12) (f_X7_frictionAt n 3)) (n 67))
def v_X7_digest_10 (g : F1) (n : F1) : Int64 := (f_X7_mixAll_o_h (f_X7_mixAll_o_h (v_X7_digest_9 g n) n 74 (1 + 3 * sN n)) n 111 (1 + 2 * pN n))
def f_X7_digest (g : F1) (n : F1) : Int64 := (f_X7_mixAll_o_h (v_X7_digest_10 g n) n 132 (1 + 3 * eN n))
def f_X7_digest_o (g : F1) : F1 := (upd g 1 0)
def f_X7_digest_o_h (g : F1) (n : F1) : Int64 := (f_X7_mixAll_o_h (v_X7_digest_10 g n) n 132 (1 + 3 * eN n))
set_option maxHeartbeats 4000000 in
set_option maxRecDepth 100000 in
theorem c_X7_digest (l : Launch) (D : va_G) (ty : Nat → ClassId) (o : Nat) (a : Nat) (b : Nat) (c_ : Nat) (g : F1) (hs : Int64) (n : F1) (hM : MOK n) : MC l D ty yX7_digest cX7_digest 3 (some .long) 5 [.ref o] [(o, moE g hs a b c_), (a, arE ty 253 n)] (some (.long (f_X7_digest g n))) [(o, moE (f_X7_digest_o g) (f_X7_digest_o_h g n) a b c_), (a, arE ty 253 n)] := by
  refine mc_l (by decide +kernel) (Nat.le_of_ble_eq_true rfl) ?_
  intro p e s m args below meth c A Q ls C hK hA X hret hl
  have hx := C.1
  have hb := C.2.1
  have hl : lv_has ls 3 [(0, .ref o)] := hl
  have X : Wd D A s.heap [(o, moE g hs a b c_), (a, arE ty 253 n)] s.heap [] := X
  obtain ⟨hn, hs1, hs2⟩ := sN_eq hM
  obtain ⟨hp0, hp1⟩ := pN_eq hM
  obtain ⟨he0, he1⟩ := eN_eq hM
  refine lv_aload_n hx hb dX7_digest_0 rfl (lv_at hl 0 rfl) ?_
  refine lv_iconst (v := 0) hx hb dX7_digest_1 (by decide) ?_
  refine put_mo_4 C hK X 0 rfl pl_X7_22 dX7_digest_2 (fun H locs X => ?_)
  have X : Wd D A s.heap [(o, moE (upd g 1 0) hs a b c_), (a, arE ty 253 n)] H locs := X
  refine lv_aload_n hx hb dX7_digest_5 rfl (lv_at hl 0 rfl) ?_
  refine lv_ldc2 hx hb C.2.2.2.1 (C.2.2.2.2 _ wk_X7_177) dX7_digest_6 ?_
  refine put_mo_5 C hK X 0 rfl pl_X7_170 dX7_digest_9 (fun H locs X => ?_)
  have X : Wd D A s.heap [(o, moE (upd g 1 0) 19707 a b c_), (a, arE ty 253 n)] H locs := X
  refine lv_aload_n hx hb dX7_digest_12 rfl (lv_at hl 0 rfl) ?_
  refine lv_aload_n hx hb dX7_digest_13 rfl (lv_at hl 0 rfl) ?_
  refine get_mo_3 C hK X 0 rfl fl_X7_26 dX7_digest_14 ?_
  refine s_eqi (y := (g 0)) (pk_un (by decide)) ?_
  refine s_cVv (ws' := [(o, moE (upd g 1 0) (f_X7_mix_o_h 19707 (g 0)) a b c_), (a, arE ty 253 n)]) C hK hA X (c_X7_mix l D ty o a b c_ (upd g 1 0) 19707 (g 0)) [0] (pk_c rfl pk_n) rfl (pk_c rfl pk_n) (em_t (em_f em_n)) rfl ml_X7_mix wm_X7_174 (q0 := 0) rfl rfl rfl ⟨Nat.le_of_ble_eq_true rfl, Nat.le_of_ble_eq_true rfl⟩ ⟨Nat.zero_le _, Nat.zero_le _⟩ hl.1 rfl (Nat.le_of_ble_eq_true rfl) dX7_digest_17 (fun H locs X => ?_)
  refine lv_iconst (v := 0) hx hb dX7_digest_20 (by decide) ?_
  refine lv_istore_n (lv' := [(1, .int 0), (0, .ref o)]) hx hb dX7_digest_21 rfl hl (by decide) rfl (fun ls hl => ?_)
  have K1 : ∀ (y1_0 : Int32) (y1_1 : Int64) (ls : Array Slot) (H : Heap) (locs : List Loc), y1_0 = 10 → y1_1 = (mixC n (f_X7_mix_o_h 19707 (g 0)) 10) → lv_has ls 3 [(1, .int y1_0), (0, .ref o)] → Wd D A s.heap [(o, moE (upd g 1 0) y1_1 a b c_), (a, arE ty 253 n)] H locs → W p l e (rmD 5) s m args below meth c H locs 0 0 Q (F0 m 43 ls []) := by
    intro y1_0 y1_1 ls H locs ey1_0 ey1_1 hl X
    replace ey1_0 := ey1_0.symm; subst ey1_0; replace ey1_1 := ey1_1.symm; subst ey1_1
    refine lv_iconst (v := 0) hx hb dX7_digest_43 (by decide) ?_
    refine lv_istore_n (lv' := [(1, .int 0), (0, .ref o)]) hx hb dX7_digest_44 rfl hl (by decide) rfl (fun ls hl => ?_)
    refine lv_iload_n hx hb dX7_digest_45 rfl (lv_at hl 0 rfl) ?_
    refine lv_iconst (v := 4) hx hb dX7_digest_46 (by decide) ?_
    refine lv_icmp_ge (tgt := 100) hx hb dX7_digest_47 (by decide) (fun c0 => absurd c0 (by decide)) (fun _ => ?_)
    refine lv_iconst (v := 0) hx hb dX7_digest_50 (by decide) ?_
    refine lv_istore_n (lv' := [(2, .int 0), (1, .int 0), (0, .ref o)]) hx hb dX7_digest_51 rfl hl (by decide) rfl (fun ls hl => ?_)
    have K2 : ∀ (y2_0 : Int32) (y2_1 : Int64) (ls : Array Slot) (H : Heap) (locs : List Loc), y2_0 = 12 → y2_1 = (mixW n 0 (mixC n (f_X7_mix_o_h 19707 (g 0)) 10) 12) → lv_has ls 3 [(2, .int y2_0), (1, .int 0), (0, .ref o)] → Wd D A s.heap [(o, moE (upd g 1 0) y2_1 a b c_), (a, arE ty 253 n)] H locs → W p l e (rmD 5) s m args below meth c H locs 0 0 Q (F0 m 74 ls []) := by
      intro y2_0 y2_1 ls H locs ey2_0 ey2_1 hl X
      replace ey2_0 := ey2_0.symm; subst ey2_0; replace ey2_1 := ey2_1.symm; subst ey2_1
      refine lv_aload_n hx hb dX7_digest_74 rfl (lv_at hl 2 rfl) ?_
      refine lv_aload_n hx hb dX7_digest_75 rfl (lv_at hl 2 rfl) ?_
      refine lv_iload_n hx hb dX7_digest_76 rfl (lv_at hl 1 rfl) ?_
      refine s_cV0i C hK hA X (c_X7_frictionAt l D ty o a b c_ (upd g 1 0) (mixW n 0 (mixC n (f_X7_mix_o_h 19707 (g 0)) 10) 12) n 0 hM (by decide)) [0, 1] (pk_c rfl (pk_c rfl pk_n)) rfl ml_X7_frictionAt wm_X7_133 (q0 := 0) rfl rfl rfl ⟨Nat.le_of_ble_eq_true rfl, Nat.le_of_ble_eq_true rfl⟩ ⟨Nat.zero_le _, Nat.zero_le _⟩ hl.1 rfl (Nat.le_of_ble_eq_true rfl) dX7_digest_77 (fun H locs X => ?_)
      refine s_cVv (ws' := [(o, moE (upd g 1 0) (f_X7_mix_o_h (mixW n 0 (mixC n (f_X7_mix_o_h 19707 (g 0)) 10) 12) (f_X7_frictionAt n 0)) a b c_), (a, arE ty 253 n)]) C hK hA X (c_X7_mix l D ty o a b c_ (upd g 1 0) (mixW n 0 (mixC n (f_X7_mix_o_h 19707 (g 0)) 10) 12) (f_X7_frictionAt n 0)) [0] (pk_c rfl pk_n) rfl (pk_c rfl pk_n) (em_t (em_f em_n)) rfl ml_X7_mix wm_X7_174 (q0 := 0) rfl rfl rfl ⟨Nat.le_of_ble_eq_true rfl, Nat.le_of_ble_eq_true rfl⟩ ⟨Nat.zero_le _, Nat.zero_le _⟩ hl.1 rfl (Nat.le_of_ble_eq_true rfl) dX7_digest_80 (fun H locs X => ?_)
      refine lv_aload_n hx hb dX7_digest_83 rfl (lv_at hl 2 rfl) ?_
      refine lv_aload_n hx hb dX7_digest_84 rfl (lv_at hl 2 rfl) ?_
      refine lv_iload_n hx hb dX7_digest_85 rfl (lv_at hl 1 rfl) ?_
      refine lv_bipush (v := 9) hx hb dX7_digest_86 (by decide) ?_
      refine s_cV0i C hK hA X (c_X7_get l D ty o a b c_ (upd g 1 0) (f_X7_mix_o_h (mixW n 0 (mixC n (f_X7_mix_o_h 19707 (g 0)) 10) 12) (f_X7_frictionAt n 0)) n 0 9 19 (by decide) (by decide)) [0, 1] (pk_c rfl (pk_c rfl pk_n)) rfl ml_X7_get wm_X7_45 (q0 := 0) rfl rfl rfl ⟨Nat.le_of_ble_eq_true rfl, Nat.le_of_ble_eq_true rfl⟩ ⟨Nat.zero_le _, Nat.zero_le _⟩ hl.1 rfl (Nat.le_of_ble_eq_true rfl) dX7_digest_88 (fun H locs X => ?_)
      refine s_cVv (ws' := [(o, moE (upd g 1 0) (v_X7_digest_3 g n) a b c_), (a, arE ty 253 n)]) C hK hA X (c_X7_mix l D ty o a b c_ (upd g 1 0) (f_X7_mix_o_h (mixW n 0 (mixC n (f_X7_mix_o_h 19707 (g 0)) 10) 12) (f_X7_frictionAt n 0)) (n 19)) [0] (pk_c rfl pk_n) rfl (pk_c rfl pk_n) (em_t (em_f em_n)) rfl ml_X7_mix wm_X7_174 (q0 := 0) rfl rfl rfl ⟨Nat.le_of_ble_eq_true rfl, Nat.le_of_ble_eq_true rfl⟩ ⟨Nat.zero_le _, Nat.zero_le _⟩ hl.1 rfl (Nat.le_of_ble_eq_true rfl) dX7_digest_91 (fun H locs X => ?_)
      refine lv_iinc (v := 1) (lv' := [(1, .int 1), (2, .int 12), (0, .ref o)]) hx hb dX7_digest_94 hl (k := 1) rfl (by decide) (by decide) rfl (fun ls hl => ?_)
      refine lv_goto (tgt := 45) hx hb dX7_digest_97 (by decide) ?_
      refine lv_iload_n hx hb dX7_digest_45 rfl (lv_at hl 0 rfl) ?_
      refine lv_iconst (v := 4) hx hb dX7_digest_46 (by decide) ?_
      refine lv_icmp_ge (tgt := 100) hx hb dX7_digest_47 (by decide) (fun c0 => absurd c0 (by decide)) (fun _ => ?_)
      refine lv_iconst (v := 0) hx hb dX7_digest_50 (by decide) ?_
      refine lv_istore_n (lv' := [(2, .int 0), (1, .int 1), (0, .ref o)]) hx hb dX7_digest_51 rfl hl (by decide) rfl (fun ls hl => ?_)
      have K4 : ∀ (y4_0 : Int32) (y4_1 : Int64) (ls : Array Slot) (H : Heap) (locs : List Loc), y4_0 = 12 → y4_1 = (mixW n 1 (v_X7_digest_3 g n) 12) → lv_has ls 3 [(2, .int y4_0), (1, .int 1), (0, .ref o)] → Wd D A s.heap [(o, moE (upd g 1 0) y4_1 a b c_), (a, arE ty 253 n)] H locs → W p l e (rmD 5) s m args below meth c H locs 0 0 Q (F0 m 74 ls []) := by
        intro y4_0 y4_1 ls H locs ey4_0 ey4_1 hl X
        replace ey4_0 := ey4_0.symm; subst ey4_0; replace ey4_1 := ey4_1.symm; subst ey4_1
        refine lv_aload_n hx hb dX7_digest_74 rfl (lv_at hl 2 rfl) ?_
        refine lv_aload_n hx hb dX7_digest_75 rfl (lv_at hl 2 rfl) ?_
        refine lv_iload_n hx hb dX7_digest_76 rfl (lv_at hl 1 rfl) ?_
        refine s_cV0i C hK hA X (c_X7_frictionAt l D ty o a b c_ (upd g 1 0) (mixW n 1 (v_X7_digest_3 g n) 12) n 1 hM (by decide)) [0, 1] (pk_c rfl (pk_c rfl pk_n)) rfl ml_X7_frictionAt wm_X7_133 (q0 := 0) rfl rfl rfl ⟨Nat.le_of_ble_eq_true rfl, Nat.le_of_ble_eq_true rfl⟩ ⟨Nat.zero_le _, Nat.zero_le _⟩ hl.1 rfl (Nat.le_of_ble_eq_true rfl) dX7_digest_77 (fun H locs X => ?_)
        refine s_cVv (ws' := [(o, moE (upd g 1 0) (f_X7_mix_o_h (mixW n 1 (v_X7_digest_3 g n) 12) (f_X7_frictionAt n 1)) a b c_), (a, arE ty 253 n)]) C hK hA X (c_X7_mix l D ty o a b c_ (upd g 1 0) (mixW n 1 (v_X7_digest_3 g n) 12) (f_X7_frictionAt n 1)) [0] (pk_c rfl pk_n) rfl (pk_c rfl pk_n) (em_t (em_f em_n)) rfl ml_X7_mix wm_X7_174 (q0 := 0) rfl rfl rfl ⟨Nat.le_of_ble_eq_true rfl, Nat.le_of_ble_eq_true rfl⟩ ⟨Nat.zero_le _, Nat.zero_le _⟩ hl.1 rfl (Nat.le_of_ble_eq_true rfl) dX7_digest_80 (fun H locs X => ?_)
        refine lv_aload_n hx hb dX7_digest_83 rfl (lv_at hl 2 rfl) ?_
        refine lv_aload_n hx hb dX7_digest_84 rfl (lv_at hl 2 rfl) ?_
        refine lv_iload_n hx hb dX7_digest_85 rfl (lv_at hl 1 rfl) ?_
        refine lv_bipush (v := 9) hx hb dX7_digest_86 (by decide) ?_
        refine s_cV0i C hK hA X (c_X7_get l D ty o a b c_ (upd g 1 0) (f_X7_mix_o_h (mixW n 1 (v_X7_digest_3 g n) 12) (f_X7_frictionAt n 1)) n 1 9 35 (by decide) (by decide)) [0, 1] (pk_c rfl (pk_c rfl pk_n)) rfl ml_X7_get wm_X7_45 (q0 := 0) rfl rfl rfl ⟨Nat.le_of_ble_eq_true rfl, Nat.le_of_ble_eq_true rfl⟩ ⟨Nat.zero_le _, Nat.zero_le _⟩ hl.1 rfl (Nat.le_of_ble_eq_true rfl) dX7_digest_88 (fun H locs X => ?_)
        refine s_cVv (ws' := [(o, moE (upd g 1 0) (v_X7_digest_5 g n) a b c_), (a, arE ty 253 n)]) C hK hA X (c_X7_mix l D ty o a b c_ (upd g 1 0) (f_X7_mix_o_h (mixW n 1 (v_X7_digest_3 g n) 12) (f_X7_frictionAt n 1)) (n 35)) [0] (pk_c rfl pk_n) rfl (pk_c rfl pk_n) (em_t (em_f em_n)) rfl ml_X7_mix wm_X7_174 (q0 := 0) rfl rfl rfl ⟨Nat.le_of_ble_eq_true rfl, Nat.le_of_ble_eq_true rfl⟩ ⟨Nat.zero_le _, Nat.zero_le _⟩ hl.1 rfl (Nat.le_of_ble_eq_true rfl) dX7_digest_91 (fun H locs X => ?_)
        refine lv_iinc (v := 2) (lv' := [(1, .int 2), (2, .int 12), (0, .ref o)]) hx hb dX7_digest_94 hl (k := 1) rfl (by decide) (by decide) rfl (fun ls hl => ?_)
        refine lv_goto (tgt := 45) hx hb dX7_digest_97 (by decide) ?_
        refine lv_iload_n hx hb dX7_digest_45 rfl (lv_at hl 0 rfl) ?_
        refine lv_iconst (v := 4) hx hb dX7_digest_46 (by decide) ?_
        refine lv_icmp_ge (tgt := 100) hx hb dX7_digest_47 (by decide) (fun c0 => absurd c0 (by decide)) (fun _ => ?_)
        refine lv_iconst (v := 0) hx hb dX7_digest_50 (by decide) ?_
        refine lv_istore_n (lv' := [(2, .int 0), (1, .int 2), (0, .ref o)]) hx hb dX7_digest_51 rfl hl (by decide) rfl (fun ls hl => ?_)
        have K6 : ∀ (y6_0 : Int32) (y6_1 : Int64) (ls : Array Slot) (H : Heap) (locs : List Loc), y6_0 = 12 → y6_1 = (mixW n 2 (v_X7_digest_5 g n) 12) → lv_has ls 3 [(2, .int y6_0), (1, .int 2), (0, .ref o)] → Wd D A s.heap [(o, moE (upd g 1 0) y6_1 a b c_), (a, arE ty 253 n)] H locs → W p l e (rmD 5) s m args below meth c H locs 0 0 Q (F0 m 74 ls []) := by
          intro y6_0 y6_1 ls H locs ey6_0 ey6_1 hl X
          replace ey6_0 := ey6_0.symm; subst ey6_0; replace ey6_1 := ey6_1.symm; subst ey6_1
          refine lv_aload_n hx hb dX7_digest_74 rfl (lv_at hl 2 rfl) ?_
          refine lv_aload_n hx hb dX7_digest_75 rfl (lv_at hl 2 rfl) ?_
          refine lv_iload_n hx hb dX7_digest_76 rfl (lv_at hl 1 rfl) ?_
          refine s_cV0i C hK hA X (c_X7_frictionAt l D ty o a b c_ (upd g 1 0) (mixW n 2 (v_X7_digest_5 g n) 12) n 2 hM (by decide)) [0, 1] (pk_c rfl (pk_c rfl pk_n)) rfl ml_X7_frictionAt wm_X7_133 (q0 := 0) rfl rfl rfl ⟨Nat.le_of_ble_eq_true rfl, Nat.le_of_ble_eq_true rfl⟩ ⟨Nat.zero_le _, Nat.zero_le _⟩ hl.1 rfl (Nat.le_of_ble_eq_true rfl) dX7_digest_77 (fun H locs X => ?_)
          refine s_cVv (ws' := [(o, moE (upd g 1 0) (f_X7_mix_o_h (mixW n 2 (v_X7_digest_5 g n) 12) (f_X7_frictionAt n 2)) a b c_), (a, arE ty 253 n)]) C hK hA X (c_X7_mix l D ty o a b c_ (upd g 1 0) (mixW n 2 (v_X7_digest_5 g n) 12) (f_X7_frictionAt n 2)) [0] (pk_c rfl pk_n) rfl (pk_c rfl pk_n) (em_t (em_f em_n)) rfl ml_X7_mix wm_X7_174 (q0 := 0) rfl rfl rfl ⟨Nat.le_of_ble_eq_true rfl, Nat.le_of_ble_eq_true rfl⟩ ⟨Nat.zero_le _, Nat.zero_le _⟩ hl.1 rfl (Nat.le_of_ble_eq_true rfl) dX7_digest_80 (fun H locs X => ?_)
          refine lv_aload_n hx hb dX7_digest_83 rfl (lv_at hl 2 rfl) ?_
          refine lv_aload_n hx hb dX7_digest_84 rfl (lv_at hl 2 rfl) ?_
          refine lv_iload_n hx hb dX7_digest_85 rfl (lv_at hl 1 rfl) ?_
          refine lv_bipush (v := 9) hx hb dX7_digest_86 (by decide) ?_
          refine s_cV0i C hK hA X (c_X7_get l D ty o a b c_ (upd g 1 0) (f_X7_mix_o_h (mixW n 2 (v_X7_digest_5 g n) 12) (f_X7_frictionAt n 2)) n 2 9 51 (by decide) (by decide)) [0, 1] (pk_c rfl (pk_c rfl pk_n)) rfl ml_X7_get wm_X7_45 (q0 := 0) rfl rfl rfl ⟨Nat.le_of_ble_eq_true rfl, Nat.le_of_ble_eq_true rfl⟩ ⟨Nat.zero_le _, Nat.zero_le _⟩ hl.1 rfl (Nat.le_of_ble_eq_true rfl) dX7_digest_88 (fun H locs X => ?_)
          refine s_cVv (ws' := [(o, moE (upd g 1 0) (v_X7_digest_7 g n) a b c_), (a, arE ty 253 n)]) C hK hA X (c_X7_mix l D ty o a b c_ (upd g 1 0) (f_X7_mix_o_h (mixW n 2 (v_X7_digest_5 g n) 12) (f_X7_frictionAt n 2)) (n 51)) [0] (pk_c rfl pk_n) rfl (pk_c rfl pk_n) (em_t (em_f em_n)) rfl ml_X7_mix wm_X7_174 (q0 := 0) rfl rfl rfl ⟨Nat.le_of_ble_eq_true rfl, Nat.le_of_ble_eq_true rfl⟩ ⟨Nat.zero_le _, Nat.zero_le _⟩ hl.1 rfl (Nat.le_of_ble_eq_true rfl) dX7_digest_91 (fun H locs X => ?_)
          refine lv_iinc (v := 3) (lv' := [(1, .int 3), (2, .int 12), (0, .ref o)]) hx hb dX7_digest_94 hl (k := 1) rfl (by decide) (by decide) rfl (fun ls hl => ?_)
          refine lv_goto (tgt := 45) hx hb dX7_digest_97 (by decide) ?_
          refine lv_iload_n hx hb dX7_digest_45 rfl (lv_at hl 0 rfl) ?_
          refine lv_iconst (v := 4) hx hb dX7_digest_46 (by decide) ?_
          refine lv_icmp_ge (tgt := 100) hx hb dX7_digest_47 (by decide) (fun c0 => absurd c0 (by decide)) (fun _ => ?_)
          refine lv_iconst (v := 0) hx hb dX7_digest_50 (by decide) ?_
          refine lv_istore_n (lv' := [(2, .int 0), (1, .int 3), (0, .ref o)]) hx hb dX7_digest_51 rfl hl (by decide) rfl (fun ls hl => ?_)
          have K8 : ∀ (y8_0 : Int32) (y8_1 : Int64) (ls : Array Slot) (H : Heap) (locs : List Loc), y8_0 = 12 → y8_1 = (mixW n 3 (v_X7_digest_7 g n) 12) → lv_has ls 3 [(2, .int y8_0), (1, .int 3), (0, .ref o)] → Wd D A s.heap [(o, moE (upd g 1 0) y8_1 a b c_), (a, arE ty 253 n)] H locs → W p l e (rmD 5) s m args below meth c H locs 0 0 Q (F0 m 74 ls []) := by
            intro y8_0 y8_1 ls H locs ey8_0 ey8_1 hl X
            replace ey8_0 := ey8_0.symm; subst ey8_0; replace ey8_1 := ey8_1.symm; subst ey8_1
            refine lv_aload_n hx hb dX7_digest_74 rfl (lv_at hl 2 rfl) ?_
            refine lv_aload_n hx hb dX7_digest_75 rfl (lv_at hl 2 rfl) ?_
            refine lv_iload_n hx hb dX7_digest_76 rfl (lv_at hl 1 rfl) ?_
            refine s_cV0i C hK hA X (c_X7_frictionAt l D ty o a b c_ (upd g 1 0) (mixW n 3 (v_X7_digest_7 g n) 12) n 3 hM (by decide)) [0, 1] (pk_c rfl (pk_c rfl pk_n)) rfl ml_X7_frictionAt wm_X7_133 (q0 := 0) rfl rfl rfl ⟨Nat.le_of_ble_eq_true rfl, Nat.le_of_ble_eq_true rfl⟩ ⟨Nat.zero_le _, Nat.zero_le _⟩ hl.1 rfl (Nat.le_of_ble_eq_true rfl) dX7_digest_77 (fun H locs X => ?_)
            refine s_cVv (ws' := [(o, moE (upd g 1 0) (f_X7_mix_o_h (mixW n 3 (v_X7_digest_7 g n) 12) (f_X7_frictionAt n 3)) a b c_), (a, arE ty 253 n)]) C hK hA X (c_X7_mix l D ty o a b c_ (upd g 1 0) (mixW n 3 (v_X7_digest_7 g n) 12) (f_X7_frictionAt n 3)) [0] (pk_c rfl pk_n) rfl (pk_c rfl pk_n) (em_t (em_f em_n)) rfl ml_X7_mix wm_X7_174 (q0 := 0) rfl rfl rfl ⟨Nat.le_of_ble_eq_true rfl, Nat.le_of_ble_eq_true rfl⟩ ⟨Nat.zero_le _, Nat.zero_le _⟩ hl.1 rfl (Nat.le_of_ble_eq_true rfl) dX7_digest_80 (fun H locs X => ?_)
            refine lv_aload_n hx hb dX7_digest_83 rfl (lv_at hl 2 rfl) ?_
            refine lv_aload_n hx hb dX7_digest_84 rfl (lv_at hl 2 rfl) ?_
            refine lv_iload_n hx hb dX7_digest_85 rfl (lv_at hl 1 rfl) ?_
            refine lv_bipush (v := 9) hx hb dX7_digest_86 (by decide) ?_
            refine s_cV0i C hK hA X (c_X7_get l D ty o a b c_ (upd g 1 0) (f_X7_mix_o_h (mixW n 3 (v_X7_digest_7 g n) 12) (f_X7_frictionAt n 3)) n 3 9 67 (by decide) (by decide)) [0, 1] (pk_c rfl (pk_c rfl pk_n)) rfl ml_X7_get wm_X7_45 (q0 := 0) rfl rfl rfl ⟨Nat.le_of_ble_eq_true rfl, Nat.le_of_ble_eq_true rfl⟩ ⟨Nat.zero_le _, Nat.zero_le _⟩ hl.1 rfl (Nat.le_of_ble_eq_true rfl) dX7_digest_88 (fun H locs X => ?_)
            refine s_cVv (ws' := [(o, moE (upd g 1 0) (v_X7_digest_9 g n) a b c_), (a, arE ty 253 n)]) C hK hA X (c_X7_mix l D ty o a b c_ (upd g 1 0) (f_X7_mix_o_h (mixW n 3 (v_X7_digest_7 g n) 12) (f_X7_frictionAt n 3)) (n 67)) [0] (pk_c rfl pk_n) rfl (pk_c rfl pk_n) (em_t (em_f em_n)) rfl ml_X7_mix wm_X7_174 (q0 := 0) rfl rfl rfl ⟨Nat.le_of_ble_eq_true rfl, Nat.le_of_ble_eq_true rfl⟩ ⟨Nat.zero_le _, Nat.zero_le _⟩ hl.1 rfl (Nat.le_of_ble_eq_true rfl) dX7_digest_91 (fun H locs X => ?_)
            refine lv_iinc (v := 4) (lv' := [(1, .int 4), (2, .int 12), (0, .ref o)]) hx hb dX7_digest_94 hl (k := 1) rfl (by decide) (by decide) rfl (fun ls hl => ?_)
            refine lv_goto (tgt := 45) hx hb dX7_digest_97 (by decide) ?_
            refine lv_iload_n hx hb dX7_digest_45 rfl (lv_at hl 0 rfl) ?_
            refine lv_iconst (v := 4) hx hb dX7_digest_46 (by decide) ?_
            refine lv_icmp_ge (tgt := 100) hx hb dX7_digest_47 (by decide) (fun _ => ?_) (fun c0 => absurd (by decide) c0)
            refine lv_aload_n hx hb dX7_digest_100 rfl (lv_at hl 2 rfl) ?_
            refine lv_bipush (v := 74) hx hb dX7_digest_101 (by decide) ?_
            refine lv_iconst (v := 1) hx hb dX7_digest_103 (by decide) ?_
            refine lv_iconst (v := 3) hx hb dX7_digest_104 (by decide) ?_
            refine lv_aload_n hx hb dX7_digest_105 rfl (lv_at hl 2 rfl) ?_
            refine get_mo_0 C hK X 0 rfl fl_X7_7 dX7_digest_106 ?_
            refine lv_bipush (v := 74) hx hb dX7_digest_109 (by decide) ?_
            refine s_ialN C hK X 1 74 rfl rfl (by decide) (by decide) dX7_digest_111 ?_
            refine s_eqi (y := nI (sN n)) (hn) ?_
            refine lv_imul hx hb dX7_digest_112 ?_
            refine s_eqi (y := nI (3 * sN n)) (pk_mul 3 _) ?_
            refine lv_iadd hx hb dX7_digest_113 ?_
            refine s_eqi (y := nI (1 + 3 * sN n)) (nI_add 1 _) ?_
            refine s_cVv (ws' := [(o, moE (upd g 1 0) (f_X7_mixAll_o_h (v_X7_digest_9 g n) n 74 (1 + 3 * sN n)) a b c_), (a, arE ty 253 n)]) C hK hA X (c_X7_mixAll l D ty o a b c_ (upd g 1 0) (v_X7_digest_9 g n) n 74 (1 + 3 * sN n) (by omega)) [0, 1] (pk_c rfl (pk_c rfl pk_n)) rfl (pk_c rfl (pk_c rfl pk_n)) (em_t (em_t em_n)) rfl ml_X7_mixAll wm_X7_179 (q0 := 0) rfl rfl rfl ⟨Nat.le_of_ble_eq_true rfl, Nat.le_of_ble_eq_true rfl⟩ ⟨Nat.zero_le _, Nat.zero_le _⟩ hl.1 rfl (Nat.le_of_ble_eq_true rfl) dX7_digest_114 (fun H locs X => ?_)
            refine lv_aload_n hx hb dX7_digest_117 rfl (lv_at hl 2 rfl) ?_
            refine lv_bipush (v := 111) hx hb dX7_digest_118 (by decide) ?_
            refine lv_iconst (v := 1) hx hb dX7_digest_120 (by decide) ?_
            refine lv_iconst (v := 2) hx hb dX7_digest_121 (by decide) ?_
            refine lv_aload_n hx hb dX7_digest_122 rfl (lv_at hl 2 rfl) ?_
            refine get_mo_0 C hK X 0 rfl fl_X7_7 dX7_digest_123 ?_
            refine lv_bipush (v := 111) hx hb dX7_digest_126 (by decide) ?_
            refine s_ialN C hK X 1 111 rfl rfl (by decide) (by decide) dX7_digest_128 ?_
            refine s_eqi (y := nI (pN n)) (hp0) ?_
            refine lv_imul hx hb dX7_digest_129 ?_
            refine s_eqi (y := nI (2 * pN n)) (pk_mul 2 _) ?_
            refine lv_iadd hx hb dX7_digest_130 ?_
            refine s_eqi (y := nI (1 + 2 * pN n)) (nI_add 1 _) ?_
            refine s_cVv (ws' := [(o, moE (upd g 1 0) (v_X7_digest_10 g n) a b c_), (a, arE ty 253 n)]) C hK hA X (c_X7_mixAll l D ty o a b c_ (upd g 1 0) (f_X7_mixAll_o_h (v_X7_digest_9 g n) n 74 (1 + 3 * sN n)) n 111 (1 + 2 * pN n) (by omega)) [0, 1] (pk_c rfl (pk_c rfl pk_n)) rfl (pk_c rfl (pk_c rfl pk_n)) (em_t (em_t em_n)) rfl ml_X7_mixAll wm_X7_179 (q0 := 0) rfl rfl rfl ⟨Nat.le_of_ble_eq_true rfl, Nat.le_of_ble_eq_true rfl⟩ ⟨Nat.zero_le _, Nat.zero_le _⟩ hl.1 rfl (Nat.le_of_ble_eq_true rfl) dX7_digest_131 (fun H locs X => ?_)
            refine lv_aload_n hx hb dX7_digest_134 rfl (lv_at hl 2 rfl) ?_
            refine lv_sipush (v := 132) hx hb dX7_digest_135 (by decide) ?_
            refine lv_iconst (v := 1) hx hb dX7_digest_138 (by decide) ?_
            refine lv_iconst (v := 3) hx hb dX7_digest_139 (by decide) ?_
            refine lv_aload_n hx hb dX7_digest_140 rfl (lv_at hl 2 rfl) ?_
            refine get_mo_0 C hK X 0 rfl fl_X7_7 dX7_digest_141 ?_
            refine lv_sipush (v := 132) hx hb dX7_digest_144 (by decide) ?_
            refine s_ialN C hK X 1 132 rfl rfl (by decide) (by decide) dX7_digest_147 ?_
            refine s_eqi (y := nI (eN n)) (he0) ?_
            refine lv_imul hx hb dX7_digest_148 ?_
            refine s_eqi (y := nI (3 * eN n)) (pk_mul 3 _) ?_
            refine lv_iadd hx hb dX7_digest_149 ?_
            refine s_eqi (y := nI (1 + 3 * eN n)) (nI_add 1 _) ?_
            refine s_cVv (ws' := [(o, moE (upd g 1 0) (f_X7_mixAll_o_h (v_X7_digest_10 g n) n 132 (1 + 3 * eN n)) a b c_), (a, arE ty 253 n)]) C hK hA X (c_X7_mixAll l D ty o a b c_ (upd g 1 0) (v_X7_digest_10 g n) n 132 (1 + 3 * eN n) (by omega)) [0, 1] (pk_c rfl (pk_c rfl pk_n)) rfl (pk_c rfl (pk_c rfl pk_n)) (em_t (em_t em_n)) rfl ml_X7_mixAll wm_X7_179 (q0 := 0) rfl rfl rfl ⟨Nat.le_of_ble_eq_true rfl, Nat.le_of_ble_eq_true rfl⟩ ⟨Nat.zero_le _, Nat.zero_le _⟩ hl.1 rfl (Nat.le_of_ble_eq_true rfl) dX7_digest_150 (fun H locs X => ?_)
            refine lv_aload_n hx hb dX7_digest_153 rfl (lv_at hl 2 rfl) ?_
            refine get_mo_5 C hK X 0 rfl fl_X7_170 dX7_digest_154 ?_
            have e_0_0 : (f_X7_digest_o g) = (upd g 1 0) := by first | (rw [f_X7_digest_o]; done) | (rw [f_X7_digest_o]; rfl) | (simp only [f_X7_digest_o]; done)
            have e_0_1 : (f_X7_digest_o_h g n) = (f_X7_mixAll_o_h (v_X7_digest_10 g n) n 132 (1 + 3 * eN n)) := by first | (rw [f_X7_digest_o_h]; done) | (rw [f_X7_digest_o_h]; rfl) | (simp only [f_X7_digest_o_h]; done)
            exact hret _ _ _ _ _ _ dX7_digest_157 X (by rw [e_0_0, e_0_1]) (by first | (rw [f_X7_digest]; done) | (rw [f_X7_digest]; rfl) | (simp only [f_X7_digest]; done))
          have L8 : ∀ (kf i : Nat) (y8_0 : Int32) (y8_1 : Int64) (ls : Array Slot) (H : Heap) (locs : List Loc), 12 - i < kf → (i ≤ 12) → y8_0 = (nI i) → y8_1 = (mixW n 3 (v_X7_digest_7 g n) i) → lv_has ls 3 [(2, .int y8_0), (1, .int 3), (0, .ref o)] → Wd D A s.heap [(o, moE (upd g 1 0) y8_1 a b c_), (a, arE ty 253 n)] H locs → W p l e (rmD 5) s m args below meth c H locs 0 0 Q (F0 m 52 ls []) := by
            intro kf
            induction kf with
            | zero => intro i y8_0 y8_1 ls H locs hk; exact absurd hk (Nat.not_lt_zero _)
            | succ kf ih8 =>
              intro i y8_0 y8_1 ls H locs hk hI ey8_0 ey8_1 hl X
              replace ey8_0 := ey8_0.symm; subst ey8_0; replace ey8_1 := ey8_1.symm; subst ey8_1
              refine lv_iload_n hx hb dX7_digest_52 rfl (lv_at hl 0 rfl) ?_
              refine lv_bipush (v := 12) hx hb dX7_digest_53 (by decide) ?_
              refine lv_icmp_ge (tgt := 74) hx hb dX7_digest_55 (by decide) (fun c0_0 => ?_) (fun c0_0 => ?_)
              · have hE : i = 12 := eq_of_nIle (a := 12) (by decide) (by omega) hI c0_0
                exact K8 (nI i) (mixW n 3 (v_X7_digest_7 g n) i) _ _ _ (by rw [hE]; rfl) (by rw [hE]) (lv_sub hl [0, 1, 2] rfl) X
              · have h1 : i < 12 := lt_of_nnIle (a := 12) (b := i) (by decide) (by omega) c0_0
                refine lv_aload_n hx hb dX7_digest_58 rfl (lv_at hl 2 rfl) ?_
                refine lv_aload_n hx hb dX7_digest_59 rfl (lv_at hl 2 rfl) ?_
                refine lv_iload_n hx hb dX7_digest_60 rfl (lv_at hl 1 rfl) ?_
                refine lv_iload_n hx hb dX7_digest_61 rfl (lv_at hl 0 rfl) ?_
                refine s_cV0i C hK hA X (c_X7_tellWheel l D ty o a b c_ (upd g 1 0) (mixW n 3 (v_X7_digest_7 g n) i) n 3 i hM (by decide) (by omega)) [0, 1] (pk_c rfl (pk_c rfl pk_n)) rfl ml_X7_tellWheel wm_X7_165 (q0 := 0) rfl rfl rfl ⟨Nat.le_of_ble_eq_true rfl, Nat.le_of_ble_eq_true rfl⟩ ⟨Nat.zero_le _, Nat.zero_le _⟩ hl.1 rfl (Nat.le_of_ble_eq_true rfl) dX7_digest_62 (fun H locs X => ?_)
                refine s_cVv (ws' := [(o, moE (upd g 1 0) (f_X7_mix_o_h (mixW n 3 (v_X7_digest_7 g n) i) (f_X7_tellWheel n 3 i)) a b c_), (a, arE ty 253 n)]) C hK hA X (c_X7_mix l D ty o a b c_ (upd g 1 0) (mixW n 3 (v_X7_digest_7 g n) i) (f_X7_tellWheel n 3 i)) [0] (pk_c rfl pk_n) rfl (pk_c rfl pk_n) (em_t (em_f em_n)) rfl ml_X7_mix wm_X7_174 (q0 := 0) rfl rfl rfl ⟨Nat.le_of_ble_eq_true rfl, Nat.le_of_ble_eq_true rfl⟩ ⟨Nat.zero_le _, Nat.zero_le _⟩ hl.1 rfl (Nat.le_of_ble_eq_true rfl) dX7_digest_65 (fun H locs X => ?_)
                refine lv_iinc (v := ((nI i) + 1)) (lv' := [(2, .int ((nI i) + 1)), (1, .int 3), (0, .ref o)]) hx hb dX7_digest_68 hl (k := 0) rfl rfl (by decide) rfl (fun ls hl => ?_)
                refine lv_goto (tgt := 52) hx hb dX7_digest_71 (by decide) ?_
                have h1 : i < 12 := lt_of_nnIle (a := 12) (b := i) (by decide) (by omega) c0_0
                exact ih8 (i + 1) ((nI i) + 1) (f_X7_mix_o_h (mixW n 3 (v_X7_digest_7 g n) i) (f_X7_tellWheel n 3 i)) _ _ _ (by omega) (by omega) (nI_1 i) rfl (lv_sub hl [0, 1, 2] rfl) X
          exact L8 (12 + 1) 0 0 (v_X7_digest_7 g n) _ _ _ (by omega) (Nat.zero_le _) rfl rfl (lv_sub hl [0, 1, 2] rfl) X
        have L6 : ∀ (kf i : Nat) (y6_0 : Int32) (y6_1 : Int64) (ls : Array Slot) (H : Heap) (locs : List Loc), 12 - i < kf → (i ≤ 12) → y6_0 = (nI i) → y6_1 = (mixW n 2 (v_X7_digest_5 g n) i) → lv_has ls 3 [(2, .int y6_0), (1, .int 2), (0, .ref o)] → Wd D A s.heap [(o, moE (upd g 1 0) y6_1 a b c_), (a, arE ty 253 n)] H locs → W p l e (rmD 5) s m args below meth c H locs 0 0 Q (F0 m 52 ls []) := by
          intro kf
          induction kf with
          | zero => intro i y6_0 y6_1 ls H locs hk; exact absurd hk (Nat.not_lt_zero _)
          | succ kf ih6 =>
            intro i y6_0 y6_1 ls H locs hk hI ey6_0 ey6_1 hl X
            replace ey6_0 := ey6_0.symm; subst ey6_0; replace ey6_1 := ey6_1.symm; subst ey6_1
            refine lv_iload_n hx hb dX7_digest_52 rfl (lv_at hl 0 rfl) ?_
            refine lv_bipush (v := 12) hx hb dX7_digest_53 (by decide) ?_
            refine lv_icmp_ge (tgt := 74) hx hb dX7_digest_55 (by decide) (fun c0_0 => ?_) (fun c0_0 => ?_)
            · have hE : i = 12 := eq_of_nIle (a := 12) (by decide) (by omega) hI c0_0
              exact K6 (nI i) (mixW n 2 (v_X7_digest_5 g n) i) _ _ _ (by rw [hE]; rfl) (by rw [hE]) (lv_sub hl [0, 1, 2] rfl) X
            · have h1 : i < 12 := lt_of_nnIle (a := 12) (b := i) (by decide) (by omega) c0_0
              refine lv_aload_n hx hb dX7_digest_58 rfl (lv_at hl 2 rfl) ?_
              refine lv_aload_n hx hb dX7_digest_59 rfl (lv_at hl 2 rfl) ?_
              refine lv_iload_n hx hb dX7_digest_60 rfl (lv_at hl 1 rfl) ?_
              refine lv_iload_n hx hb dX7_digest_61 rfl (lv_at hl 0 rfl) ?_
              refine s_cV0i C hK hA X (c_X7_tellWheel l D ty o a b c_ (upd g 1 0) (mixW n 2 (v_X7_digest_5 g n) i) n 2 i hM (by decide) (by omega)) [0, 1] (pk_c rfl (pk_c rfl pk_n)) rfl ml_X7_tellWheel wm_X7_165 (q0 := 0) rfl rfl rfl ⟨Nat.le_of_ble_eq_true rfl, Nat.le_of_ble_eq_true rfl⟩ ⟨Nat.zero_le _, Nat.zero_le _⟩ hl.1 rfl (Nat.le_of_ble_eq_true rfl) dX7_digest_62 (fun H locs X => ?_)
              refine s_cVv (ws' := [(o, moE (upd g 1 0) (f_X7_mix_o_h (mixW n 2 (v_X7_digest_5 g n) i) (f_X7_tellWheel n 2 i)) a b c_), (a, arE ty 253 n)]) C hK hA X (c_X7_mix l D ty o a b c_ (upd g 1 0) (mixW n 2 (v_X7_digest_5 g n) i) (f_X7_tellWheel n 2 i)) [0] (pk_c rfl pk_n) rfl (pk_c rfl pk_n) (em_t (em_f em_n)) rfl ml_X7_mix wm_X7_174 (q0 := 0) rfl rfl rfl ⟨Nat.le_of_ble_eq_true rfl, Nat.le_of_ble_eq_true rfl⟩ ⟨Nat.zero_le _, Nat.zero_le _⟩ hl.1 rfl (Nat.le_of_ble_eq_true rfl) dX7_digest_65 (fun H locs X => ?_)
              refine lv_iinc (v := ((nI i) + 1)) (lv' := [(2, .int ((nI i) + 1)), (1, .int 2), (0, .ref o)]) hx hb dX7_digest_68 hl (k := 0) rfl rfl (by decide) rfl (fun ls hl => ?_)
              refine lv_goto (tgt := 52) hx hb dX7_digest_71 (by decide) ?_
              have h1 : i < 12 := lt_of_nnIle (a := 12) (b := i) (by decide) (by omega) c0_0
              exact ih6 (i + 1) ((nI i) + 1) (f_X7_mix_o_h (mixW n 2 (v_X7_digest_5 g n) i) (f_X7_tellWheel n 2 i)) _ _ _ (by omega) (by omega) (nI_1 i) rfl (lv_sub hl [0, 1, 2] rfl) X
        exact L6 (12 + 1) 0 0 (v_X7_digest_5 g n) _ _ _ (by omega) (Nat.zero_le _) rfl rfl (lv_sub hl [0, 1, 2] rfl) X
      have L4 : ∀ (kf i : Nat) (y4_0 : Int32) (y4_1 : Int64) (ls : Array Slot) (H : Heap) (locs : List Loc), 12 - i < kf → (i ≤ 12) → y4_0 = (nI i) → y4_1 = (mixW n 1 (v_X7_digest_3 g n) i) → lv_has ls 3 [(2, .int y4_0), (1, .int 1), (0, .ref o)] → Wd D A s.heap [(o, moE (upd g 1 0) y4_1 a b c_), (a, arE ty 253 n)] H locs → W p l e (rmD 5) s m args below meth c H locs 0 0 Q (F0 m 52 ls []) := by
        intro kf
        induction kf with
        | zero => intro i y4_0 y4_1 ls H locs hk; exact absurd hk (Nat.not_lt_zero _)
        | succ kf ih4 =>
          intro i y4_0 y4_1 ls H locs hk hI ey4_0 ey4_1 hl X
          replace ey4_0 := ey4_0.symm; subst ey4_0; replace ey4_1 := ey4_1.symm; subst ey4_1
          refine lv_iload_n hx hb dX7_digest_52 rfl (lv_at hl 0 rfl) ?_
          refine lv_bipush (v := 12) hx hb dX7_digest_53 (by decide) ?_
          refine lv_icmp_ge (tgt := 74) hx hb dX7_digest_55 (by decide) (fun c0_0 => ?_) (fun c0_0 => ?_)
          · have hE : i = 12 := eq_of_nIle (a := 12) (by decide) (by omega) hI c0_0
            exact K4 (nI i) (mixW n 1 (v_X7_digest_3 g n) i) _ _ _ (by rw [hE]; rfl) (by rw [hE]) (lv_sub hl [0, 1, 2] rfl) X
          · have h1 : i < 12 := lt_of_nnIle (a := 12) (b := i) (by decide) (by omega) c0_0
            refine lv_aload_n hx hb dX7_digest_58 rfl (lv_at hl 2 rfl) ?_
            refine lv_aload_n hx hb dX7_digest_59 rfl (lv_at hl 2 rfl) ?_
            refine lv_iload_n hx hb dX7_digest_60 rfl (lv_at hl 1 rfl) ?_
            refine lv_iload_n hx hb dX7_digest_61 rfl (lv_at hl 0 rfl) ?_
            refine s_cV0i C hK hA X (c_X7_tellWheel l D ty o a b c_ (upd g 1 0) (mixW n 1 (v_X7_digest_3 g n) i) n 1 i hM (by decide) (by omega)) [0, 1] (pk_c rfl (pk_c rfl pk_n)) rfl ml_X7_tellWheel wm_X7_165 (q0 := 0) rfl rfl rfl ⟨Nat.le_of_ble_eq_true rfl, Nat.le_of_ble_eq_true rfl⟩ ⟨Nat.zero_le _, Nat.zero_le _⟩ hl.1 rfl (Nat.le_of_ble_eq_true rfl) dX7_digest_62 (fun H locs X => ?_)
            refine s_cVv (ws' := [(o, moE (upd g 1 0) (f_X7_mix_o_h (mixW n 1 (v_X7_digest_3 g n) i) (f_X7_tellWheel n 1 i)) a b c_), (a, arE ty 253 n)]) C hK hA X (c_X7_mix l D ty o a b c_ (upd g 1 0) (mixW n 1 (v_X7_digest_3 g n) i) (f_X7_tellWheel n 1 i)) [0] (pk_c rfl pk_n) rfl (pk_c rfl pk_n) (em_t (em_f em_n)) rfl ml_X7_mix wm_X7_174 (q0 := 0) rfl rfl rfl ⟨Nat.le_of_ble_eq_true rfl, Nat.le_of_ble_eq_true rfl⟩ ⟨Nat.zero_le _, Nat.zero_le _⟩ hl.1 rfl (Nat.le_of_ble_eq_true rfl) dX7_digest_65 (fun H locs X => ?_)
            refine lv_iinc (v := ((nI i) + 1)) (lv' := [(2, .int ((nI i) + 1)), (1, .int 1), (0, .ref o)]) hx hb dX7_digest_68 hl (k := 0) rfl rfl (by decide) rfl (fun ls hl => ?_)
            refine lv_goto (tgt := 52) hx hb dX7_digest_71 (by decide) ?_
            have h1 : i < 12 := lt_of_nnIle (a := 12) (b := i) (by decide) (by omega) c0_0
            exact ih4 (i + 1) ((nI i) + 1) (f_X7_mix_o_h (mixW n 1 (v_X7_digest_3 g n) i) (f_X7_tellWheel n 1 i)) _ _ _ (by omega) (by omega) (nI_1 i) rfl (lv_sub hl [0, 1, 2] rfl) X
      exact L4 (12 + 1) 0 0 (v_X7_digest_3 g n) _ _ _ (by omega) (Nat.zero_le _) rfl rfl (lv_sub hl [0, 1, 2] rfl) X
    have L2 : ∀ (kf i : Nat) (y2_0 : Int32) (y2_1 : Int64) (ls : Array Slot) (H : Heap) (locs : List Loc), 12 - i < kf → (i ≤ 12) → y2_0 = (nI i) → y2_1 = (mixW n 0 (mixC n (f_X7_mix_o_h 19707 (g 0)) 10) i) → lv_has ls 3 [(2, .int y2_0), (1, .int 0), (0, .ref o)] → Wd D A s.heap [(o, moE (upd g 1 0) y2_1 a b c_), (a, arE ty 253 n)] H locs → W p l e (rmD 5) s m args below meth c H locs 0 0 Q (F0 m 52 ls []) := by
      intro kf
      induction kf with
      | zero => intro i y2_0 y2_1 ls H locs hk; exact absurd hk (Nat.not_lt_zero _)
      | succ kf ih2 =>
        intro i y2_0 y2_1 ls H locs hk hI ey2_0 ey2_1 hl X
        replace ey2_0 := ey2_0.symm; subst ey2_0; replace ey2_1 := ey2_1.symm; subst ey2_1
        refine lv_iload_n hx hb dX7_digest_52 rfl (lv_at hl 0 rfl) ?_
        refine lv_bipush (v := 12) hx hb dX7_digest_53 (by decide) ?_
        refine lv_icmp_ge (tgt := 74) hx hb dX7_digest_55 (by decide) (fun c0_0 => ?_) (fun c0_0 => ?_)
        · have hE : i = 12 := eq_of_nIle (a := 12) (by decide) (by omega) hI c0_0
          exact K2 (nI i) (mixW n 0 (mixC n (f_X7_mix_o_h 19707 (g 0)) 10) i) _ _ _ (by rw [hE]; rfl) (by rw [hE]) (lv_sub hl [0, 1, 2] rfl) X
        · have h1 : i < 12 := lt_of_nnIle (a := 12) (b := i) (by decide) (by omega) c0_0
          refine lv_aload_n hx hb dX7_digest_58 rfl (lv_at hl 2 rfl) ?_
          refine lv_aload_n hx hb dX7_digest_59 rfl (lv_at hl 2 rfl) ?_
          refine lv_iload_n hx hb dX7_digest_60 rfl (lv_at hl 1 rfl) ?_
          refine lv_iload_n hx hb dX7_digest_61 rfl (lv_at hl 0 rfl) ?_
          refine s_cV0i C hK hA X (c_X7_tellWheel l D ty o a b c_ (upd g 1 0) (mixW n 0 (mixC n (f_X7_mix_o_h 19707 (g 0)) 10) i) n 0 i hM (by decide) (by omega)) [0, 1] (pk_c rfl (pk_c rfl pk_n)) rfl ml_X7_tellWheel wm_X7_165 (q0 := 0) rfl rfl rfl ⟨Nat.le_of_ble_eq_true rfl, Nat.le_of_ble_eq_true rfl⟩ ⟨Nat.zero_le _, Nat.zero_le _⟩ hl.1 rfl (Nat.le_of_ble_eq_true rfl) dX7_digest_62 (fun H locs X => ?_)
          refine s_cVv (ws' := [(o, moE (upd g 1 0) (f_X7_mix_o_h (mixW n 0 (mixC n (f_X7_mix_o_h 19707 (g 0)) 10) i) (f_X7_tellWheel n 0 i)) a b c_), (a, arE ty 253 n)]) C hK hA X (c_X7_mix l D ty o a b c_ (upd g 1 0) (mixW n 0 (mixC n (f_X7_mix_o_h 19707 (g 0)) 10) i) (f_X7_tellWheel n 0 i)) [0] (pk_c rfl pk_n) rfl (pk_c rfl pk_n) (em_t (em_f em_n)) rfl ml_X7_mix wm_X7_174 (q0 := 0) rfl rfl rfl ⟨Nat.le_of_ble_eq_true rfl, Nat.le_of_ble_eq_true rfl⟩ ⟨Nat.zero_le _, Nat.zero_le _⟩ hl.1 rfl (Nat.le_of_ble_eq_true rfl) dX7_digest_65 (fun H locs X => ?_)
          refine lv_iinc (v := ((nI i) + 1)) (lv' := [(2, .int ((nI i) + 1)), (1, .int 0), (0, .ref o)]) hx hb dX7_digest_68 hl (k := 0) rfl rfl (by decide) rfl (fun ls hl => ?_)
          refine lv_goto (tgt := 52) hx hb dX7_digest_71 (by decide) ?_
          have h1 : i < 12 := lt_of_nnIle (a := 12) (b := i) (by decide) (by omega) c0_0
          exact ih2 (i + 1) ((nI i) + 1) (f_X7_mix_o_h (mixW n 0 (mixC n (f_X7_mix_o_h 19707 (g 0)) 10) i) (f_X7_tellWheel n 0 i)) _ _ _ (by omega) (by omega) (nI_1 i) rfl (lv_sub hl [0, 1, 2] rfl) X
    exact L2 (12 + 1) 0 0 (mixC n (f_X7_mix_o_h 19707 (g 0)) 10) _ _ _ (by omega) (Nat.zero_le _) rfl rfl (lv_sub hl [0, 1, 2] rfl) X
  have L1 : ∀ (kf i : Nat) (y1_0 : Int32) (y1_1 : Int64) (ls : Array Slot) (H : Heap) (locs : List Loc), 10 - i < kf → (i ≤ 10) → y1_0 = (nI i) → y1_1 = (mixC n (f_X7_mix_o_h 19707 (g 0)) i) → lv_has ls 3 [(1, .int y1_0), (0, .ref o)] → Wd D A s.heap [(o, moE (upd g 1 0) y1_1 a b c_), (a, arE ty 253 n)] H locs → W p l e (rmD 5) s m args below meth c H locs 0 0 Q (F0 m 22 ls []) := by
    intro kf
    induction kf with
    | zero => intro i y1_0 y1_1 ls H locs hk; exact absurd hk (Nat.not_lt_zero _)
    | succ kf ih1 =>
      intro i y1_0 y1_1 ls H locs hk hI ey1_0 ey1_1 hl X
      replace ey1_0 := ey1_0.symm; subst ey1_0; replace ey1_1 := ey1_1.symm; subst ey1_1
      refine lv_iload_n hx hb dX7_digest_22 rfl (lv_at hl 0 rfl) ?_
      refine lv_bipush (v := 10) hx hb dX7_digest_23 (by decide) ?_
      refine lv_icmp_ge (tgt := 43) hx hb dX7_digest_25 (by decide) (fun c0_0 => ?_) (fun c0_0 => ?_)
      · have hE : i = 10 := eq_of_nIle (a := 10) (by decide) (by omega) hI c0_0
        exact K1 (nI i) (mixC n (f_X7_mix_o_h 19707 (g 0)) i) _ _ _ (by rw [hE]; rfl) (by rw [hE]) (lv_sub hl [0, 1] rfl) X
      · have h1 : i < 10 := lt_of_nnIle (a := 10) (b := i) (by decide) (by omega) c0_0
        refine lv_aload_n hx hb dX7_digest_28 rfl (lv_at hl 1 rfl) ?_
        refine lv_aload_n hx hb dX7_digest_29 rfl (lv_at hl 1 rfl) ?_
        refine lv_iload_n hx hb dX7_digest_30 rfl (lv_at hl 0 rfl) ?_
        refine s_cV0i C hK hA X (c_X7_tellCar l D ty o a b c_ (upd g 1 0) (mixC n (f_X7_mix_o_h 19707 (g 0)) i) n i (by omega)) [0, 1] (pk_c rfl (pk_c rfl pk_n)) rfl ml_X7_tellCar wm_X7_162 (q0 := 0) rfl rfl rfl ⟨Nat.le_of_ble_eq_true rfl, Nat.le_of_ble_eq_true rfl⟩ ⟨Nat.zero_le _, Nat.zero_le _⟩ hl.1 rfl (Nat.le_of_ble_eq_true rfl) dX7_digest_31 (fun H locs X => ?_)
        refine s_cVv (ws' := [(o, moE (upd g 1 0) (f_X7_mix_o_h (mixC n (f_X7_mix_o_h 19707 (g 0)) i) (f_X7_tellCar n i)) a b c_), (a, arE ty 253 n)]) C hK hA X (c_X7_mix l D ty o a b c_ (upd g 1 0) (mixC n (f_X7_mix_o_h 19707 (g 0)) i) (f_X7_tellCar n i)) [0] (pk_c rfl pk_n) rfl (pk_c rfl pk_n) (em_t (em_f em_n)) rfl ml_X7_mix wm_X7_174 (q0 := 0) rfl rfl rfl ⟨Nat.le_of_ble_eq_true rfl, Nat.le_of_ble_eq_true rfl⟩ ⟨Nat.zero_le _, Nat.zero_le _⟩ hl.1 rfl (Nat.le_of_ble_eq_true rfl) dX7_digest_34 (fun H locs X => ?_)
        refine lv_iinc (v := ((nI i) + 1)) (lv' := [(1, .int ((nI i) + 1)), (0, .ref o)]) hx hb dX7_digest_37 hl (k := 0) rfl rfl (by decide) rfl (fun ls hl => ?_)
        refine lv_goto (tgt := 22) hx hb dX7_digest_40 (by decide) ?_
        have h1 : i < 10 := lt_of_nnIle (a := 10) (b := i) (by decide) (by omega) c0_0
        exact ih1 (i + 1) ((nI i) + 1) (f_X7_mix_o_h (mixC n (f_X7_mix_o_h 19707 (g 0)) i) (f_X7_tellCar n i)) _ _ _ (by omega) (by omega) (nI_1 i) rfl (lv_sub hl [0, 1] rfl) X
  exact L1 (10 + 1) 0 0 (f_X7_mix_o_h 19707 (g 0)) _ _ _ (by omega) (Nat.zero_le _) rfl rfl (lv_sub hl [0, 1] rfl) X
