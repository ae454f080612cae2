set_option maxHeartbeats 4000000 in
set_option maxRecDepth 100000 in
theorem c_X6_setSpeed_no (l : Launch) (hst : l.stackTraces = false) (D : va_G) (ty : Nat → ClassId) (h : Nat) (tr : Nat) (sv_ : Nat) (sn : Nat) (ad : Nat → Nat) (u : CarS) (V : Int32) (hv : f_X6_isWithin V 0 60000 = 0) : MX l D ty yX6_setSpeed cX6_setSpeed 3 (some .int) [.ref h, .int V] [(h, abE sn (ad 0) tr sv_)] iaeE := by
  refine mx_ hst ex_iae (by decide +kernel) rfl (Nat.le_of_ble_eq_true rfl) ?_
  intro p e s m args below meth c A Q ls C hK hA X hthrow hl
  have hx := C.1
  have hb := C.2.1
  have hl : lv_has ls 3 [(0, .ref h), (1, .int V)] := hl
  have X : Wd D A s.heap [(h, abE sn (ad 0) tr sv_)] s.heap [] := X
  refine lv_iload_n hx hb dX6_setSpeed_0 rfl (lv_at hl 1 rfl) ?_
  refine lv_iconst (v := 0) hx hb dX6_setSpeed_1 (by decide) ?_
  refine lv_ldc hx hb C.2.2.2.1 (C.2.2.2.2 _ wk_X6_27) dX6_setSpeed_2 ?_
  refine s_cS0i C hK hA X (c_X6_isWithin l D ty V 0 60000) [] pk_n rfl sl_X6_isWithin wm_X6_28 ⟨Nat.le_of_ble_eq_true rfl, Nat.le_of_ble_eq_true rfl⟩ ⟨Nat.zero_le _, Nat.zero_le _⟩ hl.1 rfl (Nat.le_of_ble_eq_true rfl) dX6_setSpeed_4 (fun H locs X => ?_)
  refine s_eqi (y := 0) (hv) ?_
  refine lv_if_ne (tgt := 20) hx hb dX6_setSpeed_7 (by decide) (fun c0 => absurd (by decide) c0) (fun _ => ?_)
  exact hthrow _ _ _ _ 0 _ _ rfl dX6_setSpeed_10 dX6_setSpeed_13 dX6_setSpeed_14 dX6_setSpeed_16 dX6_setSpeed_19 hl.1 X
set_option maxHeartbeats 4000000 in
set_option maxRecDepth 100000 in
theorem c_X6_setDemand_no (l : Launch) (hst : l.stackTraces = false) (D : va_G) (ty : Nat → ClassId) (h : Nat) (tr : Nat) (sv_ : Nat) (sn : Nat) (ad : Nat → Nat) (u : CarS) (V : Int32) (hv : f_X6_isWithin V 0 2000 = 0) : MX l D ty yX6_setDemand cX6_setDemand 3 (some .int) [.ref h, .int V] [(h, abE sn (ad 0) tr sv_)] iaeE := by
  refine mx_ hst ex_iae (by decide +kernel) rfl (Nat.le_of_ble_eq_true rfl) ?_
  intro p e s m args below meth c A Q ls C hK hA X hthrow hl
  have hx := C.1
  have hb := C.2.1
  have hl : lv_has ls 3 [(0, .ref h), (1, .int V)] := hl
  have X : Wd D A s.heap [(h, abE sn (ad 0) tr sv_)] s.heap [] := X
  refine lv_iload_n hx hb dX6_setDemand_0 rfl (lv_at hl 1 rfl) ?_
  refine lv_iconst (v := 0) hx hb dX6_setDemand_1 (by decide) ?_
  refine lv_sipush (v := 2000) hx hb dX6_setDemand_2 (by decide) ?_
  refine s_cS0i C hK hA X (c_X6_isWithin l D ty V 0 2000) [] pk_n rfl sl_X6_isWithin wm_X6_28 ⟨Nat.le_of_ble_eq_true rfl, Nat.le_of_ble_eq_true rfl⟩ ⟨Nat.zero_le _, Nat.zero_le _⟩ hl.1 rfl (Nat.le_of_ble_eq_true rfl) dX6_setDemand_5 (fun H locs X => ?_)
  refine s_eqi (y := 0) (hv) ?_
  refine lv_if_ne (tgt := 21) hx hb dX6_setDemand_8 (by decide) (fun c0 => absurd (by decide) c0) (fun _ => ?_)
  exact hthrow _ _ _ _ 3 _ _ rfl dX6_setDemand_11 dX6_setDemand_14 dX6_setDemand_15 dX6_setDemand_17 dX6_setDemand_20 hl.1 X
set_option maxHeartbeats 4000000 in
set_option maxRecDepth 100000 in
theorem c_X6_addSegment_no1a (l : Launch) (hst : l.stackTraces = false) (D : va_G) (ty : Nat → ClassId) (h : Nat) (tr : Nat) (sv_ : Nat) (sn : Nat) (ad : Nat → Nat) (u : CarS) (st_ : Int32) (lf : Int32) (rg : Int32) (hv1 : f_X6_isWithin st_ ((u.1 0) 1) 100000000 = 0) : MX l D ty yX6_addSegment cX6_addSegment 4 (some .int) [.ref h, .int st_, .int lf, .int rg] [(h, abE sn (ad 0) tr sv_), ((ad 0), caE (u.1 0) (ad 1) (ad 2) (ad 11) (ad 15) (ad 19))] iaeE := by
  refine mx_ hst ex_iae (by decide +kernel) rfl (Nat.le_of_ble_eq_true rfl) ?_
  intro p e s m args below meth c A Q ls C hK hA X hthrow hl
  have hx := C.1
  have hb := C.2.1
  have hl : lv_has ls 4 [(0, .ref h), (1, .int st_), (2, .int lf), (3, .int rg)] := hl
  have X : Wd D A s.heap [(h, abE sn (ad 0) tr sv_), ((ad 0), caE (u.1 0) (ad 1) (ad 2) (ad 11) (ad 15) (ad 19))] s.heap [] := X
  refine lv_iload_n hx hb dX6_addSegment_0 rfl (lv_at hl 1 rfl) ?_
  refine lv_aload_n hx hb dX6_addSegment_1 rfl (lv_at hl 0 rfl) ?_
  refine get_ab_0 C hK X 0 rfl fl_X6_10 dX6_addSegment_2 ?_
  refine get_ca_6 C hK X 1 rfl fl_X6_49 dX6_addSegment_5 ?_
  refine lv_ldc hx hb C.2.2.2.1 (C.2.2.2.2 _ wk_X6_52) dX6_addSegment_8 ?_
  refine s_cS0i C hK hA X (c_X6_isWithin l D ty st_ ((u.1 0) 1) 100000000) [] pk_n rfl sl_X6_isWithin wm_X6_28 ⟨Nat.le_of_ble_eq_true rfl, Nat.le_of_ble_eq_true rfl⟩ ⟨Nat.zero_le _, Nat.zero_le _⟩ hl.1 rfl (Nat.le_of_ble_eq_true rfl) dX6_addSegment_10 (fun H locs X => ?_)
  refine s_eqi (y := 0) (hv1) ?_
  refine lv_if_eq (tgt := 30) hx hb dX6_addSegment_13 (by decide) (fun _ => ?_) (fun c0 => absurd (by decide) c0)
  exact hthrow _ _ _ _ 1 _ _ rfl dX6_addSegment_30 dX6_addSegment_33 dX6_addSegment_34 dX6_addSegment_36 dX6_addSegment_39 hl.1 X
set_option maxHeartbeats 4000000 in
set_option maxRecDepth 100000 in
theorem c_X6_addSegment_no1b (l : Launch) (hst : l.stackTraces = false) (D : va_G) (ty : Nat → ClassId) (h : Nat) (tr : Nat) (sv_ : Nat) (sn : Nat) (ad : Nat → Nat) (u : CarS) (st_ : Int32) (lf : Int32) (rg : Int32) (hv1 : f_X6_isWithin st_ ((u.1 0) 1) 100000000 = 1) (hv2 : f_X6_isSurface lf = 0) : MX l D ty yX6_addSegment cX6_addSegment 4 (some .int) [.ref h, .int st_, .int lf, .int rg] [(h, abE sn (ad 0) tr sv_), ((ad 0), caE (u.1 0) (ad 1) (ad 2) (ad 11) (ad 15) (ad 19))] iaeE := by
  refine mx_ hst ex_iae (by decide +kernel) rfl (Nat.le_of_ble_eq_true rfl) ?_
  intro p e s m args below meth c A Q ls C hK hA X hthrow hl
  have hx := C.1
  have hb := C.2.1
  have hl : lv_has ls 4 [(0, .ref h), (1, .int st_), (2, .int lf), (3, .int rg)] := hl
  have X : Wd D A s.heap [(h, abE sn (ad 0) tr sv_), ((ad 0), caE (u.1 0) (ad 1) (ad 2) (ad 11) (ad 15) (ad 19))] s.heap [] := X
  refine lv_iload_n hx hb dX6_addSegment_0 rfl (lv_at hl 1 rfl) ?_
  refine lv_aload_n hx hb dX6_addSegment_1 rfl (lv_at hl 0 rfl) ?_
  refine get_ab_0 C hK X 0 rfl fl_X6_10 dX6_addSegment_2 ?_
  refine get_ca_6 C hK X 1 rfl fl_X6_49 dX6_addSegment_5 ?_
  refine lv_ldc hx hb C.2.2.2.1 (C.2.2.2.2 _ wk_X6_52) dX6_addSegment_8 ?_
  refine s_cS0i C hK hA X (c_X6_isWithin l D ty st_ ((u.1 0) 1) 100000000) [] pk_n rfl sl_X6_isWithin wm_X6_28 ⟨Nat.le_of_ble_eq_true rfl, Nat.le_of_ble_eq_true rfl⟩ ⟨Nat.zero_le _, Nat.zero_le _⟩ hl.1 rfl (Nat.le_of_ble_eq_true rfl) dX6_addSegment_10 (fun H locs X => ?_)
  refine s_eqi (y := 1) (hv1) ?_
  refine lv_if_eq (tgt := 30) hx hb dX6_addSegment_13 (by decide) (fun c0 => absurd c0 (by decide)) (fun _ => ?_)
  refine lv_iload_n hx hb dX6_addSegment_16 rfl (lv_at hl 2 rfl) ?_
  refine s_cS0i C hK hA X (c_X6_isSurface l D ty lf) [] pk_n rfl sl_X6_isSurface wm_X6_53 ⟨Nat.le_of_ble_eq_true rfl, Nat.le_of_ble_eq_true rfl⟩ ⟨Nat.zero_le _, Nat.zero_le _⟩ hl.1 rfl (Nat.le_of_ble_eq_true rfl) dX6_addSegment_17 (fun H locs X => ?_)
  refine s_eqi (y := 0) (hv2) ?_
  refine lv_if_eq (tgt := 30) hx hb dX6_addSegment_20 (by decide) (fun _ => ?_) (fun c0 => absurd (by decide) c0)
  exact hthrow _ _ _ _ 1 _ _ rfl dX6_addSegment_30 dX6_addSegment_33 dX6_addSegment_34 dX6_addSegment_36 dX6_addSegment_39 hl.1 X
set_option maxHeartbeats 4000000 in
set_option maxRecDepth 100000 in
theorem c_X6_addSegment_no1c (l : Launch) (hst : l.stackTraces = false) (D : va_G) (ty : Nat → ClassId) (h : Nat) (tr : Nat) (sv_ : Nat) (sn : Nat) (ad : Nat → Nat) (u : CarS) (st_ : Int32) (lf : Int32) (rg : Int32) (hv1 : f_X6_isWithin st_ ((u.1 0) 1) 100000000 = 1) (hv2 : f_X6_isSurface lf = 1) (hv3 : f_X6_isSurface rg = 0) : MX l D ty yX6_addSegment cX6_addSegment 4 (some .int) [.ref h, .int st_, .int lf, .int rg] [(h, abE sn (ad 0) tr sv_), ((ad 0), caE (u.1 0) (ad 1) (ad 2) (ad 11) (ad 15) (ad 19))] iaeE := by
  refine mx_ hst ex_iae (by decide +kernel) rfl (Nat.le_of_ble_eq_true rfl) ?_
  intro p e s m args below meth c A Q ls C hK hA X hthrow hl
  have hx := C.1
  have hb := C.2.1
  have hl : lv_has ls 4 [(0, .ref h), (1, .int st_), (2, .int lf), (3, .int rg)] := hl
  have X : Wd D A s.heap [(h, abE sn (ad 0) tr sv_), ((ad 0), caE (u.1 0) (ad 1) (ad 2) (ad 11) (ad 15) (ad 19))] s.heap [] := X
  refine lv_iload_n hx hb dX6_addSegment_0 rfl (lv_at hl 1 rfl) ?_
  refine lv_aload_n hx hb dX6_addSegment_1 rfl (lv_at hl 0 rfl) ?_
  refine get_ab_0 C hK X 0 rfl fl_X6_10 dX6_addSegment_2 ?_
  refine get_ca_6 C hK X 1 rfl fl_X6_49 dX6_addSegment_5 ?_
  refine lv_ldc hx hb C.2.2.2.1 (C.2.2.2.2 _ wk_X6_52) dX6_addSegment_8 ?_
  refine s_cS0i C hK hA X (c_X6_isWithin l D ty st_ ((u.1 0) 1) 100000000) [] pk_n rfl sl_X6_isWithin wm_X6_28 ⟨Nat.le_of_ble_eq_true rfl, Nat.le_of_ble_eq_true rfl⟩ ⟨Nat.zero_le _, Nat.zero_le _⟩ hl.1 rfl (Nat.le_of_ble_eq_true rfl) dX6_addSegment_10 (fun H locs X => ?_)
  refine s_eqi (y := 1) (hv1) ?_
  refine lv_if_eq (tgt := 30) hx hb dX6_addSegment_13 (by decide) (fun c0 => absurd c0 (by decide)) (fun _ => ?_)
  refine lv_iload_n hx hb dX6_addSegment_16 rfl (lv_at hl 2 rfl) ?_
  refine s_cS0i C hK hA X (c_X6_isSurface l D ty lf) [] pk_n rfl sl_X6_isSurface wm_X6_53 ⟨Nat.le_of_ble_eq_true rfl, Nat.le_of_ble_eq_true rfl⟩ ⟨Nat.zero_le _, Nat.zero_le _⟩ hl.1 rfl (Nat.le_of_ble_eq_true rfl) dX6_addSegment_17 (fun H locs X => ?_)
  refine s_eqi (y := 1) (hv2) ?_
  refine lv_if_eq (tgt := 30) hx hb dX6_addSegment_20 (by decide) (fun c0 => absurd c0 (by decide)) (fun _ => ?_)
  refine lv_iload_n hx hb dX6_addSegment_23 rfl (lv_at hl 3 rfl) ?_
  refine s_cS0i C hK hA X (c_X6_isSurface l D ty rg) [] pk_n rfl sl_X6_isSurface wm_X6_53 ⟨Nat.le_of_ble_eq_true rfl, Nat.le_of_ble_eq_true rfl⟩ ⟨Nat.zero_le _, Nat.zero_le _⟩ hl.1 rfl (Nat.le_of_ble_eq_true rfl) dX6_addSegment_24 (fun H locs X => ?_)
  refine s_eqi (y := 0) (hv3) ?_
  refine lv_if_ne (tgt := 40) hx hb dX6_addSegment_27 (by decide) (fun c0 => absurd (by decide) c0) (fun _ => ?_)
  exact hthrow _ _ _ _ 1 _ _ rfl dX6_addSegment_30 dX6_addSegment_33 dX6_addSegment_34 dX6_addSegment_36 dX6_addSegment_39 hl.1 X
set_option maxHeartbeats 4000000 in
set_option maxRecDepth 100000 in
theorem c_X6_addSegment_no2 (l : Launch) (hst : l.stackTraces = false) (D : va_G) (ty : Nat → ClassId) (h : Nat) (tr : Nat) (sv_ : Nat) (sn : Nat) (ad : Nat → Nat) (u : CarS) (st_ : Int32) (lf : Int32) (rg : Int32) (hv1 : f_X6_isWithin st_ ((u.1 0) 1) 100000000 = 1) (hv2 : f_X6_isSurface lf = 1) (hv3 : f_X6_isSurface rg = 1) (hd : rdOK (u.2 2)) (hr : f_X3_hasRoomFor (u.2 2) (u.1 13) st_ = 0) : MX l D ty yX6_addSegment cX6_addSegment 4 (some .int) [.ref h, .int st_, .int lf, .int rg] [(h, abE sn (ad 0) tr sv_), ((ad 0), caE (u.1 0) (ad 1) (ad 2) (ad 11) (ad 15) (ad 19)), ((ad 15), roE (u.2 2) (ad 16) (ad 17) (ad 18)), ((ad 16), arE ty 12 (u.1 13)), ((ad 17), arE ty 12 (u.1 14)), ((ad 18), arE ty 12 (u.1 15))] iseE := by
  refine mx_ hst ex_ise (by decide +kernel) rfl (Nat.le_of_ble_eq_true rfl) ?_
  intro p e s m args below meth c A Q ls C hK hA X hthrow hl
  have hx := C.1
  have hb := C.2.1
  have hl : lv_has ls 4 [(0, .ref h), (1, .int st_), (2, .int lf), (3, .int rg)] := hl
  have X : Wd D A s.heap [(h, abE sn (ad 0) tr sv_), ((ad 0), caE (u.1 0) (ad 1) (ad 2) (ad 11) (ad 15) (ad 19)), ((ad 15), roE (u.2 2) (ad 16) (ad 17) (ad 18)), ((ad 16), arE ty 12 (u.1 13)), ((ad 17), arE ty 12 (u.1 14)), ((ad 18), arE ty 12 (u.1 15))] s.heap [] := X
  refine lv_iload_n hx hb dX6_addSegment_0 rfl (lv_at hl 1 rfl) ?_
  refine lv_aload_n hx hb dX6_addSegment_1 rfl (lv_at hl 0 rfl) ?_
  refine get_ab_0 C hK X 0 rfl fl_X6_10 dX6_addSegment_2 ?_
  refine get_ca_6 C hK X 1 rfl fl_X6_49 dX6_addSegment_5 ?_
  refine lv_ldc hx hb C.2.2.2.1 (C.2.2.2.2 _ wk_X6_52) dX6_addSegment_8 ?_
  refine s_cS0i C hK hA X (c_X6_isWithin l D ty st_ ((u.1 0) 1) 100000000) [] pk_n rfl sl_X6_isWithin wm_X6_28 ⟨Nat.le_of_ble_eq_true rfl, Nat.le_of_ble_eq_true rfl⟩ ⟨Nat.zero_le _, Nat.zero_le _⟩ hl.1 rfl (Nat.le_of_ble_eq_true rfl) dX6_addSegment_10 (fun H locs X => ?_)
  refine s_eqi (y := 1) (hv1) ?_
  refine lv_if_eq (tgt := 30) hx hb dX6_addSegment_13 (by decide) (fun c0 => absurd c0 (by decide)) (fun _ => ?_)
  refine lv_iload_n hx hb dX6_addSegment_16 rfl (lv_at hl 2 rfl) ?_
  refine s_cS0i C hK hA X (c_X6_isSurface l D ty lf) [] pk_n rfl sl_X6_isSurface wm_X6_53 ⟨Nat.le_of_ble_eq_true rfl, Nat.le_of_ble_eq_true rfl⟩ ⟨Nat.zero_le _, Nat.zero_le _⟩ hl.1 rfl (Nat.le_of_ble_eq_true rfl) dX6_addSegment_17 (fun H locs X => ?_)
  refine s_eqi (y := 1) (hv2) ?_
  refine lv_if_eq (tgt := 30) hx hb dX6_addSegment_20 (by decide) (fun c0 => absurd c0 (by decide)) (fun _ => ?_)
  refine lv_iload_n hx hb dX6_addSegment_23 rfl (lv_at hl 3 rfl) ?_
  refine s_cS0i C hK hA X (c_X6_isSurface l D ty rg) [] pk_n rfl sl_X6_isSurface wm_X6_53 ⟨Nat.le_of_ble_eq_true rfl, Nat.le_of_ble_eq_true rfl⟩ ⟨Nat.zero_le _, Nat.zero_le _⟩ hl.1 rfl (Nat.le_of_ble_eq_true rfl) dX6_addSegment_24 (fun H locs X => ?_)
  refine s_eqi (y := 1) (hv3) ?_
  refine lv_if_ne (tgt := 40) hx hb dX6_addSegment_27 (by decide) (fun _ => ?_) (fun c0 => absurd c0 (by decide))
  refine lv_aload_n hx hb dX6_addSegment_40 rfl (lv_at hl 0 rfl) ?_
  refine get_ab_0 C hK X 0 rfl fl_X6_10 dX6_addSegment_41 ?_
  refine get_ca_3 C hK X 1 rfl fl_X6_59 dX6_addSegment_44 ?_
  refine lv_iload_n hx hb dX6_addSegment_47 rfl (lv_at hl 1 rfl) ?_
  refine s_cV0i C hK hA X (c_X3_hasRoomFor l D ty (ad 15) (ad 16) (ad 17) (ad 18) (u.2 2) (u.1 13) (u.1 14) (u.1 15) st_ hd) [2, 3, 4, 5] (pk_c rfl (pk_c rfl (pk_c rfl (pk_c rfl pk_n)))) rfl ml_X3_hasRoomFor wm_X6_63 (q0 := 0) rfl rfl rfl ⟨Nat.le_of_ble_eq_true rfl, Nat.le_of_ble_eq_true rfl⟩ ⟨Nat.zero_le _, Nat.zero_le _⟩ hl.1 rfl (Nat.le_of_ble_eq_true rfl) dX6_addSegment_48 (fun H locs X => ?_)
  refine s_eqi (y := 0) (hr) ?_
  refine lv_if_ne (tgt := 64) hx hb dX6_addSegment_51 (by decide) (fun c0 => absurd (by decide) c0) (fun _ => ?_)
  exact hthrow _ _ _ _ 2 _ _ rfl dX6_addSegment_54 dX6_addSegment_57 dX6_addSegment_58 dX6_addSegment_60 dX6_addSegment_63 hl.1 X
set_option maxHeartbeats 4000000 in
set_option maxRecDepth 100000 in
theorem c_X6_plan_no1a (l : Launch) (hst : l.stackTraces = false) (D : va_G) (ty : Nat → ClassId) (h : Nat) (tr : Nat) (sv_ : Nat) (sn : Nat) (ad : Nat → Nat) (u : CarS) (V : Int32) (U : Int32) (hv1 : f_X6_isWithin V 1 5000 = 0) : MX l D ty yX6_plan cX6_plan 3 (some .int) [.ref h, .int V, .int U] [(h, abE sn (ad 0) tr sv_)] iaeE := by
  refine mx_ hst ex_iae (by decide +kernel) rfl (Nat.le_of_ble_eq_true rfl) ?_
  intro p e s m args below meth c A Q ls C hK hA X hthrow hl
  have hx := C.1
  have hb := C.2.1
  have hl : lv_has ls 3 [(0, .ref h), (1, .int V), (2, .int U)] := hl
  have X : Wd D A s.heap [(h, abE sn (ad 0) tr sv_)] s.heap [] := X
  refine lv_iload_n hx hb dX6_plan_0 rfl (lv_at hl 1 rfl) ?_
  refine lv_iconst (v := 1) hx hb dX6_plan_1 (by decide) ?_
  refine lv_sipush (v := 5000) hx hb dX6_plan_2 (by decide) ?_
  refine s_cS0i C hK hA X (c_X6_isWithin l D ty V 1 5000) [] pk_n rfl sl_X6_isWithin wm_X6_28 ⟨Nat.le_of_ble_eq_true rfl, Nat.le_of_ble_eq_true rfl⟩ ⟨Nat.zero_le _, Nat.zero_le _⟩ hl.1 rfl (Nat.le_of_ble_eq_true rfl) dX6_plan_5 (fun H locs X => ?_)
  refine s_eqi (y := 0) (hv1) ?_
  refine lv_if_eq (tgt := 22) hx hb dX6_plan_8 (by decide) (fun _ => ?_) (fun c0 => absurd (by decide) c0)
  exact hthrow _ _ _ _ 1 _ _ rfl dX6_plan_22 dX6_plan_25 dX6_plan_26 dX6_plan_28 dX6_plan_31 hl.1 X
set_option maxHeartbeats 4000000 in
set_option maxRecDepth 100000 in
theorem c_X6_plan_no1b (l : Launch) (hst : l.stackTraces = false) (D : va_G) (ty : Nat → ClassId) (h : Nat) (tr : Nat) (sv_ : Nat) (sn : Nat) (ad : Nat → Nat) (u : CarS) (V : Int32) (U : Int32) (hv1 : f_X6_isWithin V 1 5000 = 1) (hv2 : f_X6_isWithin U 0 2000 = 0) : MX l D ty yX6_plan cX6_plan 3 (some .int) [.ref h, .int V, .int U] [(h, abE sn (ad 0) tr sv_)] iaeE := by
  refine mx_ hst ex_iae (by decide +kernel) rfl (Nat.le_of_ble_eq_true rfl) ?_
  intro p e s m args below meth c A Q ls C hK hA X hthrow hl
  have hx := C.1
  have hb := C.2.1
  have hl : lv_has ls 3 [(0, .ref h), (1, .int V), (2, .int U)] := hl
  have X : Wd D A s.heap [(h, abE sn (ad 0) tr sv_)] s.heap [] := X
  refine lv_iload_n hx hb dX6_plan_0 rfl (lv_at hl 1 rfl) ?_
  refine lv_iconst (v := 1) hx hb dX6_plan_1 (by decide) ?_
  refine lv_sipush (v := 5000) hx hb dX6_plan_2 (by decide) ?_
  refine s_cS0i C hK hA X (c_X6_isWithin l D ty V 1 5000) [] pk_n rfl sl_X6_isWithin wm_X6_28 ⟨Nat.le_of_ble_eq_true rfl, Nat.le_of_ble_eq_true rfl⟩ ⟨Nat.zero_le _, Nat.zero_le _⟩ hl.1 rfl (Nat.le_of_ble_eq_true rfl) dX6_plan_5 (fun H locs X => ?_)
  refine s_eqi (y := 1) (hv1) ?_
  refine lv_if_eq (tgt := 22) hx hb dX6_plan_8 (by decide) (fun c0 => absurd c0 (by decide)) (fun _ => ?_)
  refine lv_iload_n hx hb dX6_plan_11 rfl (lv_at hl 2 rfl) ?_
  refine lv_iconst (v := 0) hx hb dX6_plan_12 (by decide) ?_
  refine lv_sipush (v := 2000) hx hb dX6_plan_13 (by decide) ?_
  refine s_cS0i C hK hA X (c_X6_isWithin l D ty U 0 2000) [] pk_n rfl sl_X6_isWithin wm_X6_28 ⟨Nat.le_of_ble_eq_true rfl, Nat.le_of_ble_eq_true rfl⟩ ⟨Nat.zero_le _, Nat.zero_le _⟩ hl.1 rfl (Nat.le_of_ble_eq_true rfl) dX6_plan_16 (fun H locs X => ?_)
  refine s_eqi (y := 0) (hv2) ?_
  refine lv_if_ne (tgt := 32) hx hb dX6_plan_19 (by decide) (fun c0 => absurd (by decide) c0) (fun _ => ?_)
  exact hthrow _ _ _ _ 1 _ _ rfl dX6_plan_22 dX6_plan_25 dX6_plan_26 dX6_plan_28 dX6_plan_31 hl.1 X
set_option maxHeartbeats 4000000 in
set_option maxRecDepth 100000 in
theorem c_X6_plan_no2 (l : Launch) (hst : l.stackTraces = false) (D : va_G) (ty : Nat → ClassId) (h : Nat) (tr : Nat) (sv_ : Nat) (sn : Nat) (ad : Nat → Nat) (u : CarS) (V : Int32) (U : Int32) (hv1 : f_X6_isWithin V 1 5000 = 1) (hv2 : f_X6_isWithin U 0 2000 = 1) (hf : f_X4_isFull (u.2 3) = 1) : MX l D ty yX6_plan cX6_plan 3 (some .int) [.ref h, .int V, .int U] [(h, abE sn (ad 0) tr sv_), ((ad 0), caE (u.1 0) (ad 1) (ad 2) (ad 11) (ad 15) (ad 19)), ((ad 19), scE (u.2 3) (ad 20) (ad 21))] iseE := by
  refine mx_ hst ex_ise (by decide +kernel) rfl (Nat.le_of_ble_eq_true rfl) ?_
  intro p e s m args below meth c A Q ls C hK hA X hthrow hl
  have hx := C.1
  have hb := C.2.1
  have hl : lv_has ls 3 [(0, .ref h), (1, .int V), (2, .int U)] := hl
  have X : Wd D A s.heap [(h, abE sn (ad 0) tr sv_), ((ad 0), caE (u.1 0) (ad 1) (ad 2) (ad 11) (ad 15) (ad 19)), ((ad 19), scE (u.2 3) (ad 20) (ad 21))] s.heap [] := X
  refine lv_iload_n hx hb dX6_plan_0 rfl (lv_at hl 1 rfl) ?_
  refine lv_iconst (v := 1) hx hb dX6_plan_1 (by decide) ?_
  refine lv_sipush (v := 5000) hx hb dX6_plan_2 (by decide) ?_
  refine s_cS0i C hK hA X (c_X6_isWithin l D ty V 1 5000) [] pk_n rfl sl_X6_isWithin wm_X6_28 ⟨Nat.le_of_ble_eq_true rfl, Nat.le_of_ble_eq_true rfl⟩ ⟨Nat.zero_le _, Nat.zero_le _⟩ hl.1 rfl (Nat.le_of_ble_eq_true rfl) dX6_plan_5 (fun H locs X => ?_)
  refine s_eqi (y := 1) (hv1) ?_
  refine lv_if_eq (tgt := 22) hx hb dX6_plan_8 (by decide) (fun c0 => absurd c0 (by decide)) (fun _ => ?_)
  refine lv_iload_n hx hb dX6_plan_11 rfl (lv_at hl 2 rfl) ?_
  refine lv_iconst (v := 0) hx hb dX6_plan_12 (by decide) ?_
  refine lv_sipush (v := 2000) hx hb dX6_plan_13 (by decide) ?_
  refine s_cS0i C hK hA X (c_X6_isWithin l D ty U 0 2000) [] pk_n rfl sl_X6_isWithin wm_X6_28 ⟨Nat.le_of_ble_eq_true rfl, Nat.le_of_ble_eq_true rfl⟩ ⟨Nat.zero_le _, Nat.zero_le _⟩ hl.1 rfl (Nat.le_of_ble_eq_true rfl) dX6_plan_16 (fun H locs X => ?_)
  refine s_eqi (y := 1) (hv2) ?_
  refine lv_if_ne (tgt := 32) hx hb dX6_plan_19 (by decide) (fun _ => ?_) (fun c0 => absurd c0 (by decide))
  refine lv_aload_n hx hb dX6_plan_32 rfl (lv_at hl 0 rfl) ?_
  refine get_ab_0 C hK X 0 rfl fl_X6_10 dX6_plan_33 ?_
  refine get_ca_4 C hK X 1 rfl fl_X6_85 dX6_plan_36 ?_
  refine s_cV0i C hK hA X (c_X4_isFull l D ty (ad 19) (ad 20) (ad 21) (u.2 3)) [2] (pk_c rfl pk_n) rfl ml_X4_isFull wm_X6_89 (q0 := 0) rfl rfl rfl ⟨Nat.le_of_ble_eq_true rfl, Nat.le_of_ble_eq_true rfl⟩ ⟨Nat.zero_le _, Nat.zero_le _⟩ hl.1 rfl (Nat.le_of_ble_eq_true rfl) dX6_plan_39 (fun H locs X => ?_)
  refine s_eqi (y := 1) (hf) ?_
  refine lv_if_eq (tgt := 55) hx hb dX6_plan_42 (by decide) (fun c0 => absurd c0 (by decide)) (fun _ => ?_)
  exact hthrow _ _ _ _ 4 _ _ rfl dX6_plan_45 dX6_plan_48 dX6_plan_49 dX6_plan_51 dX6_plan_54 hl.1 X
set_option maxHeartbeats 4000000 in
set_option maxRecDepth 100000 in
theorem c_X6_setFault_no (l : Launch) (hst : l.stackTraces = false) (D : va_G) (ty : Nat → ClassId) (h : Nat) (tr : Nat) (sv_ : Nat) (sn : Nat) (ad : Nat → Nat) (u : CarS) (V : Int32) (on : Int32) (hv : f_X6_isWheel V = 0) : MX l D ty yX6_setFault cX6_setFault 4 (some .boolean) [.ref h, .int V, .int on] [(h, abE sn (ad 0) tr sv_)] iobE := by
  refine mx_ hst ex_iob (by decide +kernel) rfl (Nat.le_of_ble_eq_true rfl) ?_
  intro p e s m args below meth c A Q ls C hK hA X hthrow hl
  have hx := C.1
  have hb := C.2.1
  have hl : lv_has ls 4 [(0, .ref h), (1, .int V), (2, .int on)] := hl
  have X : Wd D A s.heap [(h, abE sn (ad 0) tr sv_)] s.heap [] := X
  refine lv_iload_n hx hb dX6_setFault_0 rfl (lv_at hl 1 rfl) ?_
  refine s_cS0i C hK hA X (c_X6_isWheel l D ty V) [] pk_n rfl sl_X6_isWheel wm_X6_104 ⟨Nat.le_of_ble_eq_true rfl, Nat.le_of_ble_eq_true rfl⟩ ⟨Nat.zero_le _, Nat.zero_le _⟩ hl.1 rfl (Nat.le_of_ble_eq_true rfl) dX6_setFault_1 (fun H locs X => ?_)
  refine s_eqi (y := 0) (hv) ?_
  refine lv_if_ne (tgt := 17) hx hb dX6_setFault_4 (by decide) (fun c0 => absurd (by decide) c0) (fun _ => ?_)
  exact hthrow _ _ _ _ 5 _ _ rfl dX6_setFault_7 dX6_setFault_10 dX6_setFault_11 dX6_setFault_13 dX6_setFault_16 hl.1 X
set_option maxHeartbeats 4000000 in
set_option maxRecDepth 100000 in
theorem c_X6_run_no (l : Launch) (hst : l.stackTraces = false) (D : va_G) (ty : Nat → ClassId) (h : Nat) (tr : Nat) (sv_ : Nat) (sn : Nat) (ad : Nat → Nat) (u : CarS) (V : Int32) (hv : f_X6_isWithin V 1 1000 = 0) : MX l D ty yX6_run cX6_run 3 (some .int) [.ref h, .int V] [(h, abE sn (ad 0) tr sv_)] iaeE := by
  refine mx_ hst ex_iae (by decide +kernel) rfl (Nat.le_of_ble_eq_true rfl) ?_
  intro p e s m args below meth c A Q ls C hK hA X hthrow hl
  have hx := C.1
  have hb := C.2.1
  have hl : lv_has ls 3 [(0, .ref h), (1, .int V)] := hl
  have X : Wd D A s.heap [(h, abE sn (ad 0) tr sv_)] s.heap [] := X
  refine lv_iload_n hx hb dX6_run_0 rfl (lv_at hl 1 rfl) ?_
  refine lv_iconst (v := 1) hx hb dX6_run_1 (by decide) ?_
  refine lv_sipush (v := 1000) hx hb dX6_run_2 (by decide) ?_
  refine s_cS0i C hK hA X (c_X6_isWithin l D ty V 1 1000) [] pk_n rfl sl_X6_isWithin wm_X6_28 ⟨Nat.le_of_ble_eq_true rfl, Nat.le_of_ble_eq_true rfl⟩ ⟨Nat.zero_le _, Nat.zero_le _⟩ hl.1 rfl (Nat.le_of_ble_eq_true rfl) dX6_run_5 (fun H locs X => ?_)
  refine s_eqi (y := 0) (hv) ?_
  refine lv_if_ne (tgt := 21) hx hb dX6_run_8 (by decide) (fun c0 => absurd (by decide) c0) (fun _ => ?_)
  exact hthrow _ _ _ _ 6 _ _ rfl dX6_run_11 dX6_run_14 dX6_run_15 dX6_run_17 dX6_run_20 hl.1 X
set_option maxHeartbeats 4000000 in
set_option maxRecDepth 100000 in
theorem c_X6_stopDistance_no1 (l : Launch) (hst : l.stackTraces = false) (D : va_G) (ty : Nat → ClassId) (h : Nat) (tr : Nat) (sv_ : Nat) (sn : Nat) (ad : Nat → Nat) (u : CarS) (V : Int32) (sf : Int32) (dm : Int32) (on : Int32) (hv1 : f_X6_isWithin V 0 60000 = 0) : MX l D ty yX6_stopDistance cX6_stopDistance 5 (some .int) [.ref h, .int V, .int sf, .int dm, .int on] [(h, abE sn (ad 0) tr sv_)] iaeE := by
  refine mx_ hst ex_iae (by decide +kernel) rfl (Nat.le_of_ble_eq_true rfl) ?_
  intro p e s m args below meth c A Q ls C hK hA X hthrow hl
  have hx := C.1
  have hb := C.2.1
  have hl : lv_has ls 5 [(0, .ref h), (1, .int V), (2, .int sf), (3, .int dm), (4, .int on)] := hl
  have X : Wd D A s.heap [(h, abE sn (ad 0) tr sv_)] s.heap [] := X
  refine lv_iload_n hx hb dX6_stopDistance_0 rfl (lv_at hl 1 rfl) ?_
  refine lv_iconst (v := 0) hx hb dX6_stopDistance_1 (by decide) ?_
  refine lv_ldc hx hb C.2.2.2.1 (C.2.2.2.2 _ wk_X6_27) dX6_stopDistance_2 ?_
  refine s_cS0i C hK hA X (c_X6_isWithin l D ty V 0 60000) [] pk_n rfl sl_X6_isWithin wm_X6_28 ⟨Nat.le_of_ble_eq_true rfl, Nat.le_of_ble_eq_true rfl⟩ ⟨Nat.zero_le _, Nat.zero_le _⟩ hl.1 rfl (Nat.le_of_ble_eq_true rfl) dX6_stopDistance_4 (fun H locs X => ?_)
  refine s_eqi (y := 0) (hv1) ?_
  refine lv_if_eq (tgt := 28) hx hb dX6_stopDistance_7 (by decide) (fun _ => ?_) (fun c0 => absurd (by decide) c0)
  exact hthrow _ _ _ _ 7 _ _ rfl dX6_stopDistance_28 dX6_stopDistance_31 dX6_stopDistance_32 dX6_stopDistance_34 dX6_stopDistance_37 hl.1 X
set_option maxHeartbeats 4000000 in
set_option maxRecDepth 100000 in
theorem c_X6_stopDistance_no2 (l : Launch) (hst : l.stackTraces = false) (D : va_G) (ty : Nat → ClassId) (h : Nat) (tr : Nat) (sv_ : Nat) (sn : Nat) (ad : Nat → Nat) (u : CarS) (V : Int32) (sf : Int32) (dm : Int32) (on : Int32) (hv1 : f_X6_isWithin V 0 60000 = 1) (hv2 : f_X6_isSurfacePair sf = 0) : MX l D ty yX6_stopDistance cX6_stopDistance 5 (some .int) [.ref h, .int V, .int sf, .int dm, .int on] [(h, abE sn (ad 0) tr sv_)] iaeE := by
  refine mx_ hst ex_iae (by decide +kernel) rfl (Nat.le_of_ble_eq_true rfl) ?_
  intro p e s m args below meth c A Q ls C hK hA X hthrow hl
  have hx := C.1
  have hb := C.2.1
  have hl : lv_has ls 5 [(0, .ref h), (1, .int V), (2, .int sf), (3, .int dm), (4, .int on)] := hl
  have X : Wd D A s.heap [(h, abE sn (ad 0) tr sv_)] s.heap [] := X
  refine lv_iload_n hx hb dX6_stopDistance_0 rfl (lv_at hl 1 rfl) ?_
  refine lv_iconst (v := 0) hx hb dX6_stopDistance_1 (by decide) ?_
  refine lv_ldc hx hb C.2.2.2.1 (C.2.2.2.2 _ wk_X6_27) dX6_stopDistance_2 ?_
  refine s_cS0i C hK hA X (c_X6_isWithin l D ty V 0 60000) [] pk_n rfl sl_X6_isWithin wm_X6_28 ⟨Nat.le_of_ble_eq_true rfl, Nat.le_of_ble_eq_true rfl⟩ ⟨Nat.zero_le _, Nat.zero_le _⟩ hl.1 rfl (Nat.le_of_ble_eq_true rfl) dX6_stopDistance_4 (fun H locs X => ?_)
  refine s_eqi (y := 1) (hv1) ?_
  refine lv_if_eq (tgt := 28) hx hb dX6_stopDistance_7 (by decide) (fun c0 => absurd c0 (by decide)) (fun _ => ?_)
  refine lv_iload_n hx hb dX6_stopDistance_10 rfl (lv_at hl 2 rfl) ?_
  refine s_cS0i C hK hA X (c_X6_isSurfacePair l D ty sf) [] pk_n rfl sl_X6_isSurfacePair wm_X6_143 ⟨Nat.le_of_ble_eq_true rfl, Nat.le_of_ble_eq_true rfl⟩ ⟨Nat.zero_le _, Nat.zero_le _⟩ hl.1 rfl (Nat.le_of_ble_eq_true rfl) dX6_stopDistance_11 (fun H locs X => ?_)
  refine s_eqi (y := 0) (hv2) ?_
  refine lv_if_eq (tgt := 28) hx hb dX6_stopDistance_14 (by decide) (fun _ => ?_) (fun c0 => absurd (by decide) c0)
  exact hthrow _ _ _ _ 7 _ _ rfl dX6_stopDistance_28 dX6_stopDistance_31 dX6_stopDistance_32 dX6_stopDistance_34 dX6_stopDistance_37 hl.1 X
set_option maxHeartbeats 4000000 in
set_option maxRecDepth 100000 in
theorem c_X6_stopDistance_no3 (l : Launch) (hst : l.stackTraces = false) (D : va_G) (ty : Nat → ClassId) (h : Nat) (tr : Nat) (sv_ : Nat) (sn : Nat) (ad : Nat → Nat) (u : CarS) (V : Int32) (sf : Int32) (dm : Int32) (on : Int32) (hv1 : f_X6_isWithin V 0 60000 = 1) (hv2 : f_X6_isSurfacePair sf = 1) (hv3 : f_X6_isWithin dm 0 2000 = 0) : MX l D ty yX6_stopDistance cX6_stopDistance 5 (some .int) [.ref h, .int V, .int sf, .int dm, .int on] [(h, abE sn (ad 0) tr sv_)] iaeE := by
  refine mx_ hst ex_iae (by decide +kernel) rfl (Nat.le_of_ble_eq_true rfl) ?_
  intro p e s m args below meth c A Q ls C hK hA X hthrow hl
  have hx := C.1
  have hb := C.2.1
  have hl : lv_has ls 5 [(0, .ref h), (1, .int V), (2, .int sf), (3, .int dm), (4, .int on)] := hl
  have X : Wd D A s.heap [(h, abE sn (ad 0) tr sv_)] s.heap [] := X
  refine lv_iload_n hx hb dX6_stopDistance_0 rfl (lv_at hl 1 rfl) ?_
  refine lv_iconst (v := 0) hx hb dX6_stopDistance_1 (by decide) ?_
  refine lv_ldc hx hb C.2.2.2.1 (C.2.2.2.2 _ wk_X6_27) dX6_stopDistance_2 ?_
  refine s_cS0i C hK hA X (c_X6_isWithin l D ty V 0 60000) [] pk_n rfl sl_X6_isWithin wm_X6_28 ⟨Nat.le_of_ble_eq_true rfl, Nat.le_of_ble_eq_true rfl⟩ ⟨Nat.zero_le _, Nat.zero_le _⟩ hl.1 rfl (Nat.le_of_ble_eq_true rfl) dX6_stopDistance_4 (fun H locs X => ?_)
  refine s_eqi (y := 1) (hv1) ?_
  refine lv_if_eq (tgt := 28) hx hb dX6_stopDistance_7 (by decide) (fun c0 => absurd c0 (by decide)) (fun _ => ?_)
  refine lv_iload_n hx hb dX6_stopDistance_10 rfl (lv_at hl 2 rfl) ?_
  refine s_cS0i C hK hA X (c_X6_isSurfacePair l D ty sf) [] pk_n rfl sl_X6_isSurfacePair wm_X6_143 ⟨Nat.le_of_ble_eq_true rfl, Nat.le_of_ble_eq_true rfl⟩ ⟨Nat.zero_le _, Nat.zero_le _⟩ hl.1 rfl (Nat.le_of_ble_eq_true rfl) dX6_stopDistance_11 (fun H locs X => ?_)
  refine s_eqi (y := 1) (hv2) ?_
  refine lv_if_eq (tgt := 28) hx hb dX6_stopDistance_14 (by decide) (fun c0 => absurd c0 (by decide)) (fun _ => ?_)
  refine lv_iload_n hx hb dX6_stopDistance_17 rfl (lv_at hl 3 rfl) ?_
  refine lv_iconst (v := 0) hx hb dX6_stopDistance_18 (by decide) ?_
  refine lv_sipush (v := 2000) hx hb dX6_stopDistance_19 (by decide) ?_
  refine s_cS0i C hK hA X (c_X6_isWithin l D ty dm 0 2000) [] pk_n rfl sl_X6_isWithin wm_X6_28 ⟨Nat.le_of_ble_eq_true rfl, Nat.le_of_ble_eq_true rfl⟩ ⟨Nat.zero_le _, Nat.zero_le _⟩ hl.1 rfl (Nat.le_of_ble_eq_true rfl) dX6_stopDistance_22 (fun H locs X => ?_)
  refine s_eqi (y := 0) (hv3) ?_
  refine lv_if_ne (tgt := 38) hx hb dX6_stopDistance_25 (by decide) (fun c0 => absurd (by decide) c0) (fun _ => ?_)
  exact hthrow _ _ _ _ 7 _ _ rfl dX6_stopDistance_28 dX6_stopDistance_31 dX6_stopDistance_32 dX6_stopDistance_34 dX6_stopDistance_37 hl.1 X
set_option maxHeartbeats 4000000 in
set_option maxRecDepth 100000 in
theorem c_X6_car_no (l : Launch) (hst : l.stackTraces = false) (D : va_G) (ty : Nat → ClassId) (h : Nat) (tr : Nat) (sv_ : Nat) (sn : Nat) (ad : Nat → Nat) (u : CarS) (V : Int32) (hv : f_X6_isWithin V 0 9 = 0) : MX l D ty yX6_car cX6_car 2 (some .int) [.ref h, .int V] [(h, abE sn (ad 0) tr sv_)] iaeE := by
  refine mx_ hst ex_iae (by decide +kernel) rfl (Nat.le_of_ble_eq_true rfl) ?_
  intro p e s m args below meth c A Q ls C hK hA X hthrow hl
  have hx := C.1
  have hb := C.2.1
  have hl : lv_has ls 2 [(0, .ref h), (1, .int V)] := hl
  have X : Wd D A s.heap [(h, abE sn (ad 0) tr sv_)] s.heap [] := X
  refine lv_iload_n hx hb dX6_car_0 rfl (lv_at hl 1 rfl) ?_
  refine lv_iconst (v := 0) hx hb dX6_car_1 (by decide) ?_
  refine lv_bipush (v := 9) hx hb dX6_car_2 (by decide) ?_
  refine s_cS0i C hK hA X (c_X6_isWithin l D ty V 0 9) [] pk_n rfl sl_X6_isWithin wm_X6_28 ⟨Nat.le_of_ble_eq_true rfl, Nat.le_of_ble_eq_true rfl⟩ ⟨Nat.zero_le _, Nat.zero_le _⟩ hl.1 rfl (Nat.le_of_ble_eq_true rfl) dX6_car_4 (fun H locs X => ?_)
  refine s_eqi (y := 0) (hv) ?_
  refine lv_if_ne (tgt := 20) hx hb dX6_car_7 (by decide) (fun c0 => absurd (by decide) c0) (fun _ => ?_)
  exact hthrow _ _ _ _ 8 _ _ rfl dX6_car_10 dX6_car_13 dX6_car_14 dX6_car_16 dX6_car_19 hl.1 X
set_option maxHeartbeats 4000000 in
set_option maxRecDepth 100000 in
theorem c_X6_wheel_no1 (l : Launch) (hst : l.stackTraces = false) (D : va_G) (ty : Nat → ClassId) (h : Nat) (tr : Nat) (sv_ : Nat) (sn : Nat) (ad : Nat → Nat) (u : CarS) (V : Int32) (U : Int32) (hv : f_X6_isWheel V = 0) : MX l D ty yX6_wheel cX6_wheel 3 (some .int) [.ref h, .int V, .int U] [(h, abE sn (ad 0) tr sv_)] iobE := by
  refine mx_ hst ex_iob (by decide +kernel) rfl (Nat.le_of_ble_eq_true rfl) ?_
  intro p e s m args below meth c A Q ls C hK hA X hthrow hl
  have hx := C.1
  have hb := C.2.1
  have hl : lv_has ls 3 [(0, .ref h), (1, .int V), (2, .int U)] := hl
  have X : Wd D A s.heap [(h, abE sn (ad 0) tr sv_)] s.heap [] := X
  refine lv_iload_n hx hb dX6_wheel_0 rfl (lv_at hl 1 rfl) ?_
  refine s_cS0i C hK hA X (c_X6_isWheel l D ty V) [] pk_n rfl sl_X6_isWheel wm_X6_104 ⟨Nat.le_of_ble_eq_true rfl, Nat.le_of_ble_eq_true rfl⟩ ⟨Nat.zero_le _, Nat.zero_le _⟩ hl.1 rfl (Nat.le_of_ble_eq_true rfl) dX6_wheel_1 (fun H locs X => ?_)
  refine s_eqi (y := 0) (hv) ?_
  refine lv_if_ne (tgt := 17) hx hb dX6_wheel_4 (by decide) (fun c0 => absurd (by decide) c0) (fun _ => ?_)
  exact hthrow _ _ _ _ 5 _ _ rfl dX6_wheel_7 dX6_wheel_10 dX6_wheel_11 dX6_wheel_13 dX6_wheel_16 hl.1 X
set_option maxHeartbeats 4000000 in
set_option maxRecDepth 100000 in
theorem c_X6_wheel_no2 (l : Launch) (hst : l.stackTraces = false) (D : va_G) (ty : Nat → ClassId) (h : Nat) (tr : Nat) (sv_ : Nat) (sn : Nat) (ad : Nat → Nat) (u : CarS) (V : Int32) (U : Int32) (hv : f_X6_isWheel V = 1) (hw : f_X6_isWithin U 0 11 = 0) : MX l D ty yX6_wheel cX6_wheel 3 (some .int) [.ref h, .int V, .int U] [(h, abE sn (ad 0) tr sv_)] iaeE := by
  refine mx_ hst ex_iae (by decide +kernel) rfl (Nat.le_of_ble_eq_true rfl) ?_
  intro p e s m args below meth c A Q ls C hK hA X hthrow hl
  have hx := C.1
  have hb := C.2.1
  have hl : lv_has ls 3 [(0, .ref h), (1, .int V), (2, .int U)] := hl
  have X : Wd D A s.heap [(h, abE sn (ad 0) tr sv_)] s.heap [] := X
  refine lv_iload_n hx hb dX6_wheel_0 rfl (lv_at hl 1 rfl) ?_
  refine s_cS0i C hK hA X (c_X6_isWheel l D ty V) [] pk_n rfl sl_X6_isWheel wm_X6_104 ⟨Nat.le_of_ble_eq_true rfl, Nat.le_of_ble_eq_true rfl⟩ ⟨Nat.zero_le _, Nat.zero_le _⟩ hl.1 rfl (Nat.le_of_ble_eq_true rfl) dX6_wheel_1 (fun H locs X => ?_)
  refine s_eqi (y := 1) (hv) ?_
  refine lv_if_ne (tgt := 17) hx hb dX6_wheel_4 (by decide) (fun _ => ?_) (fun c0 => absurd c0 (by decide))
  refine lv_iload_n hx hb dX6_wheel_17 rfl (lv_at hl 2 rfl) ?_
  refine lv_iconst (v := 0) hx hb dX6_wheel_18 (by decide) ?_
  refine lv_bipush (v := 11) hx hb dX6_wheel_19 (by decide) ?_
  refine s_cS0i C hK hA X (c_X6_isWithin l D ty U 0 11) [] pk_n rfl sl_X6_isWithin wm_X6_28 ⟨Nat.le_of_ble_eq_true rfl, Nat.le_of_ble_eq_true rfl⟩ ⟨Nat.zero_le _, Nat.zero_le _⟩ hl.1 rfl (Nat.le_of_ble_eq_true rfl) dX6_wheel_21 (fun H locs X => ?_)
  refine s_eqi (y := 0) (hw) ?_
  refine lv_if_ne (tgt := 37) hx hb dX6_wheel_24 (by decide) (fun c0 => absurd (by decide) c0) (fun _ => ?_)
  exact hthrow _ _ _ _ 8 _ _ rfl dX6_wheel_27 dX6_wheel_30 dX6_wheel_31 dX6_wheel_33 dX6_wheel_36 hl.1 X
set_option maxHeartbeats 4000000 in
set_option maxRecDepth 100000 in
theorem c_X6_friction_no (l : Launch) (hst : l.stackTraces = false) (D : va_G) (ty : Nat → ClassId) (h : Nat) (tr : Nat) (sv_ : Nat) (sn : Nat) (ad : Nat → Nat) (u : CarS) (V : Int32) (hv : f_X6_isWheel V = 0) : MX l D ty yX6_friction cX6_friction 2 (some .int) [.ref h, .int V] [(h, abE sn (ad 0) tr sv_)] iobE := by
  refine mx_ hst ex_iob (by decide +kernel) rfl (Nat.le_of_ble_eq_true rfl) ?_
  intro p e s m args below meth c A Q ls C hK hA X hthrow hl
  have hx := C.1
  have hb := C.2.1
  have hl : lv_has ls 2 [(0, .ref h), (1, .int V)] := hl
  have X : Wd D A s.heap [(h, abE sn (ad 0) tr sv_)] s.heap [] := X
  refine lv_iload_n hx hb dX6_friction_0 rfl (lv_at hl 1 rfl) ?_
  refine s_cS0i C hK hA X (c_X6_isWheel l D ty V) [] pk_n rfl sl_X6_isWheel wm_X6_104 ⟨Nat.le_of_ble_eq_true rfl, Nat.le_of_ble_eq_true rfl⟩ ⟨Nat.zero_le _, Nat.zero_le _⟩ hl.1 rfl (Nat.le_of_ble_eq_true rfl) dX6_friction_1 (fun H locs X => ?_)
  refine s_eqi (y := 0) (hv) ?_
  refine lv_if_ne (tgt := 17) hx hb dX6_friction_4 (by decide) (fun c0 => absurd (by decide) c0) (fun _ => ?_)
  exact hthrow _ _ _ _ 5 _ _ rfl dX6_friction_7 dX6_friction_10 dX6_friction_11 dX6_friction_13 dX6_friction_16 hl.1 X
set_option maxHeartbeats 4000000 in
set_option maxRecDepth 100000 in
theorem c_X6_frictionFor_no1 (l : Launch) (hst : l.stackTraces = false) (D : va_G) (ty : Nat → ClassId) (h : Nat) (tr : Nat) (sv_ : Nat) (sn : Nat) (ad : Nat → Nat) (u : CarS) (V : Int32) (U : Int32) (hv : f_X6_isSurface V = 0) : MX l D ty yX6_frictionFor cX6_frictionFor 3 (some .int) [.ref h, .int V, .int U] [(h, abE sn (ad 0) tr sv_)] iaeE := by
  refine mx_ hst ex_iae (by decide +kernel) rfl (Nat.le_of_ble_eq_true rfl) ?_
  intro p e s m args below meth c A Q ls C hK hA X hthrow hl
  have hx := C.1
  have hb := C.2.1
  have hl : lv_has ls 3 [(0, .ref h), (1, .int V), (2, .int U)] := hl
  have X : Wd D A s.heap [(h, abE sn (ad 0) tr sv_)] s.heap [] := X
  refine lv_iload_n hx hb dX6_frictionFor_0 rfl (lv_at hl 1 rfl) ?_
  refine s_cS0i C hK hA X (c_X6_isSurface l D ty V) [] pk_n rfl sl_X6_isSurface wm_X6_53 ⟨Nat.le_of_ble_eq_true rfl, Nat.le_of_ble_eq_true rfl⟩ ⟨Nat.zero_le _, Nat.zero_le _⟩ hl.1 rfl (Nat.le_of_ble_eq_true rfl) dX6_frictionFor_1 (fun H locs X => ?_)
  refine s_eqi (y := 0) (hv) ?_
  refine lv_if_eq (tgt := 18) hx hb dX6_frictionFor_4 (by decide) (fun _ => ?_) (fun c0 => absurd (by decide) c0)
  exact hthrow _ _ _ _ 1 _ _ rfl dX6_frictionFor_18 dX6_frictionFor_21 dX6_frictionFor_22 dX6_frictionFor_24 dX6_frictionFor_27 hl.1 X
set_option maxHeartbeats 4000000 in
set_option maxRecDepth 100000 in
theorem c_X6_frictionFor_no2 (l : Launch) (hst : l.stackTraces = false) (D : va_G) (ty : Nat → ClassId) (h : Nat) (tr : Nat) (sv_ : Nat) (sn : Nat) (ad : Nat → Nat) (u : CarS) (V : Int32) (U : Int32) (hv : f_X6_isSurface V = 1) (hw : f_X6_isWithin U 0 1000 = 0) : MX l D ty yX6_frictionFor cX6_frictionFor 3 (some .int) [.ref h, .int V, .int U] [(h, abE sn (ad 0) tr sv_)] iaeE := by
  refine mx_ hst ex_iae (by decide +kernel) rfl (Nat.le_of_ble_eq_true rfl) ?_
  intro p e s m args below meth c A Q ls C hK hA X hthrow hl
  have hx := C.1
  have hb := C.2.1
  have hl : lv_has ls 3 [(0, .ref h), (1, .int V), (2, .int U)] := hl
  have X : Wd D A s.heap [(h, abE sn (ad 0) tr sv_)] s.heap [] := X
  refine lv_iload_n hx hb dX6_frictionFor_0 rfl (lv_at hl 1 rfl) ?_
  refine s_cS0i C hK hA X (c_X6_isSurface l D ty V) [] pk_n rfl sl_X6_isSurface wm_X6_53 ⟨Nat.le_of_ble_eq_true rfl, Nat.le_of_ble_eq_true rfl⟩ ⟨Nat.zero_le _, Nat.zero_le _⟩ hl.1 rfl (Nat.le_of_ble_eq_true rfl) dX6_frictionFor_1 (fun H locs X => ?_)
  refine s_eqi (y := 1) (hv) ?_
  refine lv_if_eq (tgt := 18) hx hb dX6_frictionFor_4 (by decide) (fun c0 => absurd c0 (by decide)) (fun _ => ?_)
  refine lv_iload_n hx hb dX6_frictionFor_7 rfl (lv_at hl 2 rfl) ?_
  refine lv_iconst (v := 0) hx hb dX6_frictionFor_8 (by decide) ?_
  refine lv_sipush (v := 1000) hx hb dX6_frictionFor_9 (by decide) ?_
  refine s_cS0i C hK hA X (c_X6_isWithin l D ty U 0 1000) [] pk_n rfl sl_X6_isWithin wm_X6_28 ⟨Nat.le_of_ble_eq_true rfl, Nat.le_of_ble_eq_true rfl⟩ ⟨Nat.zero_le _, Nat.zero_le _⟩ hl.1 rfl (Nat.le_of_ble_eq_true rfl) dX6_frictionFor_12 (fun H locs X => ?_)
  refine s_eqi (y := 0) (hw) ?_
  refine lv_if_ne (tgt := 28) hx hb dX6_frictionFor_15 (by decide) (fun c0 => absurd (by decide) c0) (fun _ => ?_)
  exact hthrow _ _ _ _ 1 _ _ rfl dX6_frictionFor_18 dX6_frictionFor_21 dX6_frictionFor_22 dX6_frictionFor_24 dX6_frictionFor_27 hl.1 X
set_option maxHeartbeats 4000000 in
set_option maxRecDepth 100000 in
theorem c_X6_segment_no1 (l : Launch) (hst : l.stackTraces = false) (D : va_G) (ty : Nat → ClassId) (h : Nat) (tr : Nat) (sv_ : Nat) (sn : Nat) (ad : Nat → Nat) (u : CarS) (V : Int32) (U : Int32) (hv : f_X6_isWithin V 0 (nI (u.2 2) - 1) = 0) : MX l D ty yX6_segment cX6_segment 3 (some .int) [.ref h, .int V, .int U] [(h, abE sn (ad 0) tr sv_), ((ad 0), caE (u.1 0) (ad 1) (ad 2) (ad 11) (ad 15) (ad 19)), ((ad 15), roE (u.2 2) (ad 16) (ad 17) (ad 18))] iobE := by
  refine mx_ hst ex_iob (by decide +kernel) rfl (Nat.le_of_ble_eq_true rfl) ?_
  intro p e s m args below meth c A Q ls C hK hA X hthrow hl
  have hx := C.1
  have hb := C.2.1
  have hl : lv_has ls 3 [(0, .ref h), (1, .int V), (2, .int U)] := hl
  have X : Wd D A s.heap [(h, abE sn (ad 0) tr sv_), ((ad 0), caE (u.1 0) (ad 1) (ad 2) (ad 11) (ad 15) (ad 19)), ((ad 15), roE (u.2 2) (ad 16) (ad 17) (ad 18))] s.heap [] := X
  refine lv_iload_n hx hb dX6_segment_0 rfl (lv_at hl 1 rfl) ?_
  refine lv_iconst (v := 0) hx hb dX6_segment_1 (by decide) ?_
  refine lv_aload_n hx hb dX6_segment_2 rfl (lv_at hl 0 rfl) ?_
  refine get_ab_0 C hK X 0 rfl fl_X6_10 dX6_segment_3 ?_
  refine get_ca_3 C hK X 1 rfl fl_X6_59 dX6_segment_6 ?_
  refine get_ro_3 C hK X 2 rfl fl_X6_77 dX6_segment_9 ?_
  refine lv_iconst (v := 1) hx hb dX6_segment_12 (by decide) ?_
  refine lv_isub hx hb dX6_segment_13 ?_
  refine s_cS0i C hK hA X (c_X6_isWithin l D ty V 0 ((nI (u.2 2)) - 1)) [] pk_n rfl sl_X6_isWithin wm_X6_28 ⟨Nat.le_of_ble_eq_true rfl, Nat.le_of_ble_eq_true rfl⟩ ⟨Nat.zero_le _, Nat.zero_le _⟩ hl.1 rfl (Nat.le_of_ble_eq_true rfl) dX6_segment_14 (fun H locs X => ?_)
  refine s_eqi (y := 0) (hv) ?_
  refine lv_if_ne (tgt := 30) hx hb dX6_segment_17 (by decide) (fun c0 => absurd (by decide) c0) (fun _ => ?_)
  exact hthrow _ _ _ _ 9 _ _ rfl dX6_segment_20 dX6_segment_23 dX6_segment_24 dX6_segment_26 dX6_segment_29 hl.1 X
set_option maxHeartbeats 4000000 in
set_option maxRecDepth 100000 in
theorem c_X6_segment_no2 (l : Launch) (hst : l.stackTraces = false) (D : va_G) (ty : Nat → ClassId) (h : Nat) (tr : Nat) (sv_ : Nat) (sn : Nat) (ad : Nat → Nat) (u : CarS) (V : Int32) (U : Int32) (hv : f_X6_isWithin V 0 (nI (u.2 2) - 1) = 1) (hw : f_X6_isWithin U 0 2 = 0) : MX l D ty yX6_segment cX6_segment 3 (some .int) [.ref h, .int V, .int U] [(h, abE sn (ad 0) tr sv_), ((ad 0), caE (u.1 0) (ad 1) (ad 2) (ad 11) (ad 15) (ad 19)), ((ad 15), roE (u.2 2) (ad 16) (ad 17) (ad 18))] iaeE := by
  refine mx_ hst ex_iae (by decide +kernel) rfl (Nat.le_of_ble_eq_true rfl) ?_
  intro p e s m args below meth c A Q ls C hK hA X hthrow hl
  have hx := C.1
  have hb := C.2.1
  have hl : lv_has ls 3 [(0, .ref h), (1, .int V), (2, .int U)] := hl
  have X : Wd D A s.heap [(h, abE sn (ad 0) tr sv_), ((ad 0), caE (u.1 0) (ad 1) (ad 2) (ad 11) (ad 15) (ad 19)), ((ad 15), roE (u.2 2) (ad 16) (ad 17) (ad 18))] s.heap [] := X
  refine lv_iload_n hx hb dX6_segment_0 rfl (lv_at hl 1 rfl) ?_
  refine lv_iconst (v := 0) hx hb dX6_segment_1 (by decide) ?_
  refine lv_aload_n hx hb dX6_segment_2 rfl (lv_at hl 0 rfl) ?_
  refine get_ab_0 C hK X 0 rfl fl_X6_10 dX6_segment_3 ?_
  refine get_ca_3 C hK X 1 rfl fl_X6_59 dX6_segment_6 ?_
  refine get_ro_3 C hK X 2 rfl fl_X6_77 dX6_segment_9 ?_
  refine lv_iconst (v := 1) hx hb dX6_segment_12 (by decide) ?_
  refine lv_isub hx hb dX6_segment_13 ?_
  refine s_cS0i C hK hA X (c_X6_isWithin l D ty V 0 ((nI (u.2 2)) - 1)) [] pk_n rfl sl_X6_isWithin wm_X6_28 ⟨Nat.le_of_ble_eq_true rfl, Nat.le_of_ble_eq_true rfl⟩ ⟨Nat.zero_le _, Nat.zero_le _⟩ hl.1 rfl (Nat.le_of_ble_eq_true rfl) dX6_segment_14 (fun H locs X => ?_)
  refine s_eqi (y := 1) (hv) ?_
  refine lv_if_ne (tgt := 30) hx hb dX6_segment_17 (by decide) (fun _ => ?_) (fun c0 => absurd c0 (by decide))
  refine lv_iload_n hx hb dX6_segment_30 rfl (lv_at hl 2 rfl) ?_
  refine lv_iconst (v := 0) hx hb dX6_segment_31 (by decide) ?_
  refine lv_iconst (v := 2) hx hb dX6_segment_32 (by decide) ?_
  refine s_cS0i C hK hA X (c_X6_isWithin l D ty U 0 2) [] pk_n rfl sl_X6_isWithin wm_X6_28 ⟨Nat.le_of_ble_eq_true rfl, Nat.le_of_ble_eq_true rfl⟩ ⟨Nat.zero_le _, Nat.zero_le _⟩ hl.1 rfl (Nat.le_of_ble_eq_true rfl) dX6_segment_33 (fun H locs X => ?_)
  refine s_eqi (y := 0) (hw) ?_
  refine lv_if_ne (tgt := 49) hx hb dX6_segment_36 (by decide) (fun c0 => absurd (by decide) c0) (fun _ => ?_)
  exact hthrow _ _ _ _ 8 _ _ rfl dX6_segment_39 dX6_segment_42 dX6_segment_43 dX6_segment_45 dX6_segment_48 hl.1 X
set_option maxHeartbeats 4000000 in
set_option maxRecDepth 100000 in
theorem c_X6_event_no1 (l : Launch) (hst : l.stackTraces = false) (D : va_G) (ty : Nat → ClassId) (h : Nat) (tr : Nat) (sv_ : Nat) (sn : Nat) (ad : Nat → Nat) (u : CarS) (V : Int32) (U : Int32) (hv : f_X6_isWithin V 0 (nI (u.2 1) - 1) = 0) : MX l D ty yX6_event cX6_event 3 (some .int) [.ref h, .int V, .int U] [(h, abE sn (ad 0) tr sv_), ((ad 0), caE (u.1 0) (ad 1) (ad 2) (ad 11) (ad 15) (ad 19)), ((ad 11), loE (u.2 0) (u.2 1) (ad 12) (ad 13) (ad 14))] iobE := by
  refine mx_ hst ex_iob (by decide +kernel) rfl (Nat.le_of_ble_eq_true rfl) ?_
  intro p e s m args below meth c A Q ls C hK hA X hthrow hl
  have hx := C.1
  have hb := C.2.1
  have hl : lv_has ls 3 [(0, .ref h), (1, .int V), (2, .int U)] := hl
  have X : Wd D A s.heap [(h, abE sn (ad 0) tr sv_), ((ad 0), caE (u.1 0) (ad 1) (ad 2) (ad 11) (ad 15) (ad 19)), ((ad 11), loE (u.2 0) (u.2 1) (ad 12) (ad 13) (ad 14))] s.heap [] := X
  refine lv_iload_n hx hb dX6_event_0 rfl (lv_at hl 1 rfl) ?_
  refine lv_iconst (v := 0) hx hb dX6_event_1 (by decide) ?_
  refine lv_aload_n hx hb dX6_event_2 rfl (lv_at hl 0 rfl) ?_
  refine get_ab_0 C hK X 0 rfl fl_X6_10 dX6_event_3 ?_
  refine get_ca_2 C hK X 1 rfl fl_X6_172 dX6_event_6 ?_
  refine get_lo_4 C hK X 2 rfl fl_X6_176 dX6_event_9 ?_
  refine lv_iconst (v := 1) hx hb dX6_event_12 (by decide) ?_
  refine lv_isub hx hb dX6_event_13 ?_
  refine s_cS0i C hK hA X (c_X6_isWithin l D ty V 0 ((nI (u.2 1)) - 1)) [] pk_n rfl sl_X6_isWithin wm_X6_28 ⟨Nat.le_of_ble_eq_true rfl, Nat.le_of_ble_eq_true rfl⟩ ⟨Nat.zero_le _, Nat.zero_le _⟩ hl.1 rfl (Nat.le_of_ble_eq_true rfl) dX6_event_14 (fun H locs X => ?_)
  refine s_eqi (y := 0) (hv) ?_
  refine lv_if_ne (tgt := 30) hx hb dX6_event_17 (by decide) (fun c0 => absurd (by decide) c0) (fun _ => ?_)
  exact hthrow _ _ _ _ 10 _ _ rfl dX6_event_20 dX6_event_23 dX6_event_24 dX6_event_26 dX6_event_29 hl.1 X
set_option maxHeartbeats 4000000 in
set_option maxRecDepth 100000 in
theorem c_X6_event_no2 (l : Launch) (hst : l.stackTraces = false) (D : va_G) (ty : Nat → ClassId) (h : Nat) (tr : Nat) (sv_ : Nat) (sn : Nat) (ad : Nat → Nat) (u : CarS) (V : Int32) (U : Int32) (hv : f_X6_isWithin V 0 (nI (u.2 1) - 1) = 1) (hw : f_X6_isWithin U 0 2 = 0) : MX l D ty yX6_event cX6_event 3 (some .int) [.ref h, .int V, .int U] [(h, abE sn (ad 0) tr sv_), ((ad 0), caE (u.1 0) (ad 1) (ad 2) (ad 11) (ad 15) (ad 19)), ((ad 11), loE (u.2 0) (u.2 1) (ad 12) (ad 13) (ad 14))] iaeE := by
  refine mx_ hst ex_iae (by decide +kernel) rfl (Nat.le_of_ble_eq_true rfl) ?_
  intro p e s m args below meth c A Q ls C hK hA X hthrow hl
  have hx := C.1
  have hb := C.2.1
  have hl : lv_has ls 3 [(0, .ref h), (1, .int V), (2, .int U)] := hl
  have X : Wd D A s.heap [(h, abE sn (ad 0) tr sv_), ((ad 0), caE (u.1 0) (ad 1) (ad 2) (ad 11) (ad 15) (ad 19)), ((ad 11), loE (u.2 0) (u.2 1) (ad 12) (ad 13) (ad 14))] s.heap [] := X
  refine lv_iload_n hx hb dX6_event_0 rfl (lv_at hl 1 rfl) ?_
  refine lv_iconst (v := 0) hx hb dX6_event_1 (by decide) ?_
  refine lv_aload_n hx hb dX6_event_2 rfl (lv_at hl 0 rfl) ?_
  refine get_ab_0 C hK X 0 rfl fl_X6_10 dX6_event_3 ?_
  refine get_ca_2 C hK X 1 rfl fl_X6_172 dX6_event_6 ?_
  refine get_lo_4 C hK X 2 rfl fl_X6_176 dX6_event_9 ?_
  refine lv_iconst (v := 1) hx hb dX6_event_12 (by decide) ?_
  refine lv_isub hx hb dX6_event_13 ?_
  refine s_cS0i C hK hA X (c_X6_isWithin l D ty V 0 ((nI (u.2 1)) - 1)) [] pk_n rfl sl_X6_isWithin wm_X6_28 ⟨Nat.le_of_ble_eq_true rfl, Nat.le_of_ble_eq_true rfl⟩ ⟨Nat.zero_le _, Nat.zero_le _⟩ hl.1 rfl (Nat.le_of_ble_eq_true rfl) dX6_event_14 (fun H locs X => ?_)
  refine s_eqi (y := 1) (hv) ?_
  refine lv_if_ne (tgt := 30) hx hb dX6_event_17 (by decide) (fun _ => ?_) (fun c0 => absurd c0 (by decide))
  refine lv_iload_n hx hb dX6_event_30 rfl (lv_at hl 2 rfl) ?_
  refine lv_iconst (v := 0) hx hb dX6_event_31 (by decide) ?_
  refine lv_iconst (v := 2) hx hb dX6_event_32 (by decide) ?_
  refine s_cS0i C hK hA X (c_X6_isWithin l D ty U 0 2) [] pk_n rfl sl_X6_isWithin wm_X6_28 ⟨Nat.le_of_ble_eq_true rfl, Nat.le_of_ble_eq_true rfl⟩ ⟨Nat.zero_le _, Nat.zero_le _⟩ hl.1 rfl (Nat.le_of_ble_eq_true rfl) dX6_event_33 (fun H locs X => ?_)
  refine s_eqi (y := 0) (hw) ?_
  refine lv_if_ne (tgt := 49) hx hb dX6_event_36 (by decide) (fun c0 => absurd (by decide) c0) (fun _ => ?_)
  exact hthrow _ _ _ _ 8 _ _ rfl dX6_event_39 dX6_event_42 dX6_event_43 dX6_event_45 dX6_event_48 hl.1 X
set_option maxHeartbeats 4000000 in
set_option maxRecDepth 100000 in
theorem c_X6_undo_no (l : Launch) (hst : l.stackTraces = false) (D : va_G) (ty : Nat → ClassId) (h : Nat) (nw : Nat) (tr : Nat) (sv_ : Nat) : MX l D ty yX6_undo cX6_undo 1 (some .int) [.ref h] [(h, abE 0 nw tr sv_)] iseE := by
  refine mx_ hst ex_ise (by decide +kernel) rfl (Nat.le_of_ble_eq_true rfl) ?_
  intro p e s m args below meth c A Q ls C hK hA X hthrow hl
  have hx := C.1
  have hb := C.2.1
  have hl : lv_has ls 1 [(0, .ref h)] := hl
  have X : Wd D A s.heap [(h, abE 0 nw tr sv_)] s.heap [] := X
  refine lv_aload_n hx hb dX6_undo_0 rfl (lv_at hl 0 rfl) ?_
  refine get_ab_3 C hK X 0 rfl fl_X6_23 dX6_undo_1 ?_
  refine W.eq (g2 := F0 m 4 ls [.int 0]) rfl ?_
  refine lv_if_gt (tgt := 17) hx hb dX6_undo_4 (by decide) (fun c0 => absurd c0 (by decide)) (fun _ => ?_)
  exact hthrow _ _ _ _ 11 _ _ rfl dX6_undo_7 dX6_undo_10 dX6_undo_11 dX6_undo_13 dX6_undo_16 hl.1 X
