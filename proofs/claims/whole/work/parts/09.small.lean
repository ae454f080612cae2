theorem nw_X0_123 : Cond.methodLinkNest RX0 123 yX6_gripFor RX6 ∈ nestW := List.mem_of_getElem? (i := 0) rfl
theorem nw_X0_142 : Cond.methodLinkNest RX0 142 yX6_asNumber RX6 ∈ nestW := List.mem_of_getElem? (i := 1) rfl
theorem nw_X0_184 : Cond.methodLinkNest RX0 184 yX6_mix RX6 ∈ nestW := List.mem_of_getElem? (i := 2) rfl
theorem nw_X3_50 : Cond.methodLinkNest RX3 50 yX6_mix RX6 ∈ nestW := List.mem_of_getElem? (i := 3) rfl
theorem nw_X4_38 : Cond.methodLinkNest RX4 38 yX6_mix RX6 ∈ nestW := List.mem_of_getElem? (i := 4) rfl
theorem nw_X2_36 : Cond.methodLinkNest RX2 36 yX6_mix RX6 ∈ nestW := List.mem_of_getElem? (i := 5) rfl
def f_X6_isWithin (v : Int32) (lo : Int32) (hi : Int32) : Int32 := (if v < lo then 0 else (if hi < v then 0 else 1))
theorem isB_within (v lo hi : Int32) : isB (f_X6_isWithin v lo hi) := by unfold f_X6_isWithin; split <;> first | exact isB0 | exact isB1 | (split <;> first | exact isB0 | exact isB1)
set_option maxHeartbeats 4000000 in
set_option maxRecDepth 100000 in
theorem c_X6_isWithin (l : Launch) (D : va_G) (ty : Nat → ClassId) (v : Int32) (lo : Int32) (hi : Int32) : MC l D ty yX6_isWithin cX6_isWithin 3 (some .boolean) 0 [.int v, .int lo, .int hi] [] (some (.int (f_X6_isWithin v lo hi))) [] := by
  refine mc_z (by decide +kernel) (Nat.le_of_ble_eq_true rfl) (and_b (by unfold f_X6_isWithin; (repeat' split) <;> first | exact isB0 | exact isB1)) ?_
  intro p e s m args below meth c A Q ls C hK hA X hret hl
  have hx := C.1
  have hb := C.2.1
  have hl : lv_has ls 3 [(0, .int v), (1, .int lo), (2, .int hi)] := hl
  have X : Wd D A s.heap [] s.heap [] := X
  refine lv_iload_n hx hb dX6_isWithin_0 rfl (lv_at hl 0 rfl) ?_
  refine lv_iload_n hx hb dX6_isWithin_1 rfl (lv_at hl 1 rfl) ?_
  refine lv_icmp_lt (tgt := 14) hx hb dX6_isWithin_2 (by decide) (fun c0_0 => ?_) (fun c0_0 => ?_)
  · refine lv_iconst (v := 0) hx hb dX6_isWithin_14 (by decide) ?_
    exact hret _ _ _ _ _ _ dX6_isWithin_15 X rfl (by first | (rw [f_X6_isWithin, if_pos c0_0]; done) | (rw [f_X6_isWithin, if_pos c0_0]; rfl) | (simp only [f_X6_isWithin, if_pos c0_0]; done))
  · refine lv_iload_n hx hb dX6_isWithin_5 rfl (lv_at hl 0 rfl) ?_
    refine lv_iload_n hx hb dX6_isWithin_6 rfl (lv_at hl 2 rfl) ?_
    refine lv_icmp_gt (tgt := 14) hx hb dX6_isWithin_7 (by decide) (fun c1_1 => ?_) (fun c1_1 => ?_)
    · refine lv_iconst (v := 0) hx hb dX6_isWithin_14 (by decide) ?_
      exact hret _ _ _ _ _ _ dX6_isWithin_15 X rfl (by first | (rw [f_X6_isWithin, if_neg c0_0, if_pos c1_1]; done) | (rw [f_X6_isWithin, if_neg c0_0, if_pos c1_1]; rfl) | (simp only [f_X6_isWithin, if_neg c0_0, if_pos c1_1]; done))
    · refine lv_iconst (v := 1) hx hb dX6_isWithin_10 (by decide) ?_
      refine lv_goto (tgt := 15) hx hb dX6_isWithin_11 (by decide) ?_
      exact hret _ _ _ _ _ _ dX6_isWithin_15 X rfl (by first | (rw [f_X6_isWithin, if_neg c0_0, if_neg c1_1]; done) | (rw [f_X6_isWithin, if_neg c0_0, if_neg c1_1]; rfl) | (simp only [f_X6_isWithin, if_neg c0_0, if_neg c1_1]; done))
def f_X6_isWheel (v : Int32) : Int32 := (f_X6_isWithin v 0 3)
set_option maxHeartbeats 4000000 in
set_option maxRecDepth 100000 in
theorem c_X6_isWheel (l : Launch) (D : va_G) (ty : Nat → ClassId) (v : Int32) : MC l D ty yX6_isWheel cX6_isWheel 1 (some .boolean) 1 [.int v] [] (some (.int (f_X6_isWheel v))) [] := by
  refine mc_z (by decide +kernel) (Nat.le_of_ble_eq_true rfl) (and_b (isB_within _ _ _)) ?_
  intro p e s m args below meth c A Q ls C hK hA X hret hl
  have hx := C.1
  have hb := C.2.1
  have hl : lv_has ls 1 [(0, .int v)] := hl
  have X : Wd D A s.heap [] s.heap [] := X
  refine lv_iload_n hx hb dX6_isWheel_0 rfl (lv_at hl 0 rfl) ?_
  refine lv_iconst (v := 0) hx hb dX6_isWheel_1 (by decide) ?_
  refine lv_iconst (v := 3) hx hb dX6_isWheel_2 (by decide) ?_
  refine s_cS0i C hK hA X (c_X6_isWithin l D ty v 0 3) [] pk_n rfl sl_X6_isWithin wm_X6_28 ⟨Nat.le_of_ble_eq_true rfl, Nat.le_of_ble_eq_true rfl⟩ ⟨Nat.zero_le _, Nat.zero_le _⟩ hl.1 rfl (Nat.le_of_ble_eq_true rfl) dX6_isWheel_3 (fun H locs X => ?_)
  exact hret _ _ _ _ _ _ dX6_isWheel_6 X rfl (by first | (rw [f_X6_isWheel]; done) | (rw [f_X6_isWheel]; rfl) | (simp only [f_X6_isWheel]; done))
def f_X6_isSurface (v : Int32) : Int32 := (f_X6_isWithin v 0 2)
set_option maxHeartbeats 4000000 in
set_option maxRecDepth 100000 in
theorem c_X6_isSurface (l : Launch) (D : va_G) (ty : Nat → ClassId) (v : Int32) : MC l D ty yX6_isSurface cX6_isSurface 1 (some .boolean) 1 [.int v] [] (some (.int (f_X6_isSurface v))) [] := by
  refine mc_z (by decide +kernel) (Nat.le_of_ble_eq_true rfl) (and_b (isB_within _ _ _)) ?_
  intro p e s m args below meth c A Q ls C hK hA X hret hl
  have hx := C.1
  have hb := C.2.1
  have hl : lv_has ls 1 [(0, .int v)] := hl
  have X : Wd D A s.heap [] s.heap [] := X
  refine lv_iload_n hx hb dX6_isSurface_0 rfl (lv_at hl 0 rfl) ?_
  refine lv_iconst (v := 0) hx hb dX6_isSurface_1 (by decide) ?_
  refine lv_iconst (v := 2) hx hb dX6_isSurface_2 (by decide) ?_
  refine s_cS0i C hK hA X (c_X6_isWithin l D ty v 0 2) [] pk_n rfl sl_X6_isWithin wm_X6_28 ⟨Nat.le_of_ble_eq_true rfl, Nat.le_of_ble_eq_true rfl⟩ ⟨Nat.zero_le _, Nat.zero_le _⟩ hl.1 rfl (Nat.le_of_ble_eq_true rfl) dX6_isSurface_3 (fun H locs X => ?_)
  exact hret _ _ _ _ _ _ dX6_isSurface_6 X rfl (by first | (rw [f_X6_isSurface]; done) | (rw [f_X6_isSurface]; rfl) | (simp only [f_X6_isSurface]; done))
def f_X6_isSurfacePair (v : Int32) : Int32 := (if v < 0 then 0 else (if (f_X6_isSurface (v / 10)) = 0 then 0 else (if (f_X6_isSurface (v - v / 10 * 10)) = 0 then 0 else 1)))
set_option maxHeartbeats 4000000 in
set_option maxRecDepth 100000 in
theorem c_X6_isSurfacePair (l : Launch) (D : va_G) (ty : Nat → ClassId) (v : Int32) : MC l D ty yX6_isSurfacePair cX6_isSurfacePair 1 (some .boolean) 2 [.int v] [] (some (.int (f_X6_isSurfacePair v))) [] := by
  refine mc_z (by decide +kernel) (Nat.le_of_ble_eq_true rfl) (and_b (by unfold f_X6_isSurfacePair; (repeat' split) <;> first | exact isB0 | exact isB1)) ?_
  intro p e s m args below meth c A Q ls C hK hA X hret hl
  have hx := C.1
  have hb := C.2.1
  have hl : lv_has ls 1 [(0, .int v)] := hl
  have X : Wd D A s.heap [] s.heap [] := X
  refine lv_iload_n hx hb dX6_isSurfacePair_0 rfl (lv_at hl 0 rfl) ?_
  refine lv_if_lt (tgt := 28) hx hb dX6_isSurfacePair_1 (by decide) (fun c0_0 => ?_) (fun c0_0 => ?_)
  · refine lv_iconst (v := 0) hx hb dX6_isSurfacePair_28 (by decide) ?_
    exact hret _ _ _ _ _ _ dX6_isSurfacePair_29 X rfl (by first | (rw [f_X6_isSurfacePair, if_pos c0_0]; done) | (rw [f_X6_isSurfacePair, if_pos c0_0]; rfl) | (simp only [f_X6_isSurfacePair, if_pos c0_0]; done))
  · refine lv_iload_n hx hb dX6_isSurfacePair_4 rfl (lv_at hl 0 rfl) ?_
    refine lv_bipush (v := 10) hx hb dX6_isSurfacePair_5 (by decide) ?_
    refine lv_idiv hx hb dX6_isSurfacePair_7 (by decide) ?_
    refine s_cS0i C hK hA X (c_X6_isSurface l D ty (v / 10)) [] pk_n rfl sl_X6_isSurface wm_X6_53 ⟨Nat.le_of_ble_eq_true rfl, Nat.le_of_ble_eq_true rfl⟩ ⟨Nat.zero_le _, Nat.zero_le _⟩ hl.1 rfl (Nat.le_of_ble_eq_true rfl) dX6_isSurfacePair_8 (fun H locs X => ?_)
    refine lv_if_eq (tgt := 28) hx hb dX6_isSurfacePair_11 (by decide) (fun c1_1 => ?_) (fun c1_1 => ?_)
    · refine lv_iconst (v := 0) hx hb dX6_isSurfacePair_28 (by decide) ?_
      exact hret _ _ _ _ _ _ dX6_isSurfacePair_29 X rfl (by first | (rw [f_X6_isSurfacePair, if_neg c0_0, if_pos c1_1]; done) | (rw [f_X6_isSurfacePair, if_neg c0_0, if_pos c1_1]; rfl) | (simp only [f_X6_isSurfacePair, if_neg c0_0, if_pos c1_1]; done))
    · refine lv_iload_n hx hb dX6_isSurfacePair_14 rfl (lv_at hl 0 rfl) ?_
      refine lv_bipush (v := 10) hx hb dX6_isSurfacePair_15 (by decide) ?_
      refine lv_irem hx hb dX6_isSurfacePair_17 (by decide) ?_
      refine s_cS0i C hK hA X (c_X6_isSurface l D ty (v - v / 10 * 10)) [] pk_n rfl sl_X6_isSurface wm_X6_53 ⟨Nat.le_of_ble_eq_true rfl, Nat.le_of_ble_eq_true rfl⟩ ⟨Nat.zero_le _, Nat.zero_le _⟩ hl.1 rfl (Nat.le_of_ble_eq_true rfl) dX6_isSurfacePair_18 (fun H locs X => ?_)
      refine lv_if_eq (tgt := 28) hx hb dX6_isSurfacePair_21 (by decide) (fun c2_2 => ?_) (fun c2_2 => ?_)
      · refine lv_iconst (v := 0) hx hb dX6_isSurfacePair_28 (by decide) ?_
        exact hret _ _ _ _ _ _ dX6_isSurfacePair_29 X rfl (by first | (rw [f_X6_isSurfacePair, if_neg c0_0, if_neg c1_1, if_pos c2_2]; done) | (rw [f_X6_isSurfacePair, if_neg c0_0, if_neg c1_1, if_pos c2_2]; rfl) | (simp only [f_X6_isSurfacePair, if_neg c0_0, if_neg c1_1, if_pos c2_2]; done))
      · refine lv_iconst (v := 1) hx hb dX6_isSurfacePair_24 (by decide) ?_
        refine lv_goto (tgt := 29) hx hb dX6_isSurfacePair_25 (by decide) ?_
        exact hret _ _ _ _ _ _ dX6_isSurfacePair_29 X rfl (by first | (rw [f_X6_isSurfacePair, if_neg c0_0, if_neg c1_1, if_neg c2_2]; done) | (rw [f_X6_isSurfacePair, if_neg c0_0, if_neg c1_1, if_neg c2_2]; rfl) | (simp only [f_X6_isSurfacePair, if_neg c0_0, if_neg c1_1, if_neg c2_2]; done))
def f_X6_peakOf (v : Int32) : Int32 := (if v = 0 then 1000 else (if v = 1 then 600 else 150))
set_option maxHeartbeats 4000000 in
set_option maxRecDepth 100000 in
theorem c_X6_peakOf (l : Launch) (D : va_G) (ty : Nat → ClassId) (v : Int32) : MC l D ty yX6_peakOf cX6_peakOf 1 (some .int) 0 [.int v] [] (some (.int (f_X6_peakOf v))) [] := by
  refine mc_i (by decide +kernel) (Nat.le_of_ble_eq_true rfl) ?_
  intro p e s m args below meth c A Q ls C hK hA X hret hl
  have hx := C.1
  have hb := C.2.1
  have hl : lv_has ls 1 [(0, .int v)] := hl
  have X : Wd D A s.heap [] s.heap [] := X
  refine lv_iload_n hx hb dX6_peakOf_0 rfl (lv_at hl 0 rfl) ?_
  refine lv_if_ne (tgt := 10) hx hb dX6_peakOf_1 (by decide) (fun c0_0 => ?_) (fun c0_0 => ?_)
  · refine lv_iload_n hx hb dX6_peakOf_10 rfl (lv_at hl 0 rfl) ?_
    refine lv_iconst (v := 1) hx hb dX6_peakOf_11 (by decide) ?_
    refine lv_icmp_ne (tgt := 21) hx hb dX6_peakOf_12 (by decide) (fun c1_1 => ?_) (fun c1_1 => ?_)
    · refine lv_sipush (v := 150) hx hb dX6_peakOf_21 (by decide) ?_
      exact hret _ _ _ _ _ _ dX6_peakOf_24 X rfl (by first | (rw [f_X6_peakOf, if_neg c0_0, if_neg c1_1]; done) | (rw [f_X6_peakOf, if_neg c0_0, if_neg c1_1]; rfl) | (simp only [f_X6_peakOf, if_neg c0_0, if_neg c1_1]; done))
    · refine lv_sipush (v := 600) hx hb dX6_peakOf_15 (by decide) ?_
      refine lv_goto (tgt := 24) hx hb dX6_peakOf_18 (by decide) ?_
      exact hret _ _ _ _ _ _ dX6_peakOf_24 X rfl (by first | (rw [f_X6_peakOf, if_neg c0_0, if_pos c1_1]; done) | (rw [f_X6_peakOf, if_neg c0_0, if_pos c1_1]; rfl) | (simp only [f_X6_peakOf, if_neg c0_0, if_pos c1_1]; done))
  · refine lv_sipush (v := 1000) hx hb dX6_peakOf_4 (by decide) ?_
    refine lv_goto (tgt := 24) hx hb dX6_peakOf_7 (by decide) ?_
    exact hret _ _ _ _ _ _ dX6_peakOf_24 X rfl (by first | (rw [f_X6_peakOf, if_pos c0_0]; done) | (rw [f_X6_peakOf, if_pos c0_0]; rfl) | (simp only [f_X6_peakOf, if_pos c0_0]; done))
def f_X6_slideShareOf (v : Int32) : Int32 := (if v = 0 then 750 else (if v = 1 then 700 else 600))
set_option maxHeartbeats 4000000 in
set_option maxRecDepth 100000 in
theorem c_X6_slideShareOf (l : Launch) (D : va_G) (ty : Nat → ClassId) (v : Int32) : MC l D ty yX6_slideShareOf cX6_slideShareOf 1 (some .int) 0 [.int v] [] (some (.int (f_X6_slideShareOf v))) [] := by
  refine mc_i (by decide +kernel) (Nat.le_of_ble_eq_true rfl) ?_
  intro p e s m args below meth c A Q ls C hK hA X hret hl
  have hx := C.1
  have hb := C.2.1
  have hl : lv_has ls 1 [(0, .int v)] := hl
  have X : Wd D A s.heap [] s.heap [] := X
  refine lv_iload_n hx hb dX6_slideShareOf_0 rfl (lv_at hl 0 rfl) ?_
  refine lv_if_ne (tgt := 10) hx hb dX6_slideShareOf_1 (by decide) (fun c0_0 => ?_) (fun c0_0 => ?_)
  · refine lv_iload_n hx hb dX6_slideShareOf_10 rfl (lv_at hl 0 rfl) ?_
    refine lv_iconst (v := 1) hx hb dX6_slideShareOf_11 (by decide) ?_
    refine lv_icmp_ne (tgt := 21) hx hb dX6_slideShareOf_12 (by decide) (fun c1_1 => ?_) (fun c1_1 => ?_)
    · refine lv_sipush (v := 600) hx hb dX6_slideShareOf_21 (by decide) ?_
      exact hret _ _ _ _ _ _ dX6_slideShareOf_24 X rfl (by first | (rw [f_X6_slideShareOf, if_neg c0_0, if_neg c1_1]; done) | (rw [f_X6_slideShareOf, if_neg c0_0, if_neg c1_1]; rfl) | (simp only [f_X6_slideShareOf, if_neg c0_0, if_neg c1_1]; done))
    · refine lv_sipush (v := 700) hx hb dX6_slideShareOf_15 (by decide) ?_
      refine lv_goto (tgt := 24) hx hb dX6_slideShareOf_18 (by decide) ?_
      exact hret _ _ _ _ _ _ dX6_slideShareOf_24 X rfl (by first | (rw [f_X6_slideShareOf, if_neg c0_0, if_pos c1_1]; done) | (rw [f_X6_slideShareOf, if_neg c0_0, if_pos c1_1]; rfl) | (simp only [f_X6_slideShareOf, if_neg c0_0, if_pos c1_1]; done))
  · refine lv_sipush (v := 750) hx hb dX6_slideShareOf_4 (by decide) ?_
    refine lv_goto (tgt := 24) hx hb dX6_slideShareOf_7 (by decide) ?_
    exact hret _ _ _ _ _ _ dX6_slideShareOf_24 X rfl (by first | (rw [f_X6_slideShareOf, if_pos c0_0]; done) | (rw [f_X6_slideShareOf, if_pos c0_0]; rfl) | (simp only [f_X6_slideShareOf, if_pos c0_0]; done))
def f_X6_gripFor (sf : Int32) (sl : Int32) : Int32 := (if 150 < sl then ((f_X6_peakOf sf) - (f_fdiv (((f_X6_peakOf sf) * (1000 - (f_X6_slideShareOf sf))) * (sl - 150)) 850000)) else (f_fdiv ((f_X6_peakOf sf) * sl) 150))
set_option maxHeartbeats 4000000 in
set_option maxRecDepth 100000 in
theorem c_X6_gripFor (l : Launch) (D : va_G) (ty : Nat → ClassId) (sf : Int32) (sl : Int32) : MC l D ty yX6_gripFor cX6_gripFor 3 (some .int) 1 [.int sf, .int sl] [] (some (.int (f_X6_gripFor sf sl))) [] := by
  refine mc_i (by decide +kernel) (Nat.le_of_ble_eq_true rfl) ?_
  intro p e s m args below meth c A Q ls C hK hA X hret hl
  have hx := C.1
  have hb := C.2.1
  have hl : lv_has ls 3 [(0, .int sf), (1, .int sl)] := hl
  have X : Wd D A s.heap [] s.heap [] := X
  refine lv_iload_n hx hb dX6_gripFor_0 rfl (lv_at hl 0 rfl) ?_
  refine s_cS0i C hK hA X (c_X6_peakOf l D ty sf) [] pk_n rfl sl_X6_peakOf wm_X6_201 ⟨Nat.le_of_ble_eq_true rfl, Nat.le_of_ble_eq_true rfl⟩ ⟨Nat.zero_le _, Nat.zero_le _⟩ hl.1 rfl (Nat.le_of_ble_eq_true rfl) dX6_gripFor_1 (fun H locs X => ?_)
  refine lv_istore_n (lv' := [(2, .int (f_X6_peakOf sf)), (0, .int sf), (1, .int sl)]) hx hb dX6_gripFor_4 rfl hl (by decide) rfl (fun ls hl => ?_)
  refine lv_iload_n hx hb dX6_gripFor_5 rfl (lv_at hl 2 rfl) ?_
  refine lv_sipush (v := 150) hx hb dX6_gripFor_6 (by decide) ?_
  refine lv_icmp_gt (tgt := 22) hx hb dX6_gripFor_9 (by decide) (fun c0_0 => ?_) (fun c0_0 => ?_)
  · refine lv_iload_n hx hb dX6_gripFor_22 rfl (lv_at hl 0 rfl) ?_
    refine lv_iload_n hx hb dX6_gripFor_23 rfl (lv_at hl 0 rfl) ?_
    refine lv_sipush (v := 1000) hx hb dX6_gripFor_24 (by decide) ?_
    refine lv_iload_n hx hb dX6_gripFor_27 rfl (lv_at hl 1 rfl) ?_
    refine s_cS0i C hK hA X (c_X6_slideShareOf l D ty sf) [] pk_n rfl sl_X6_slideShareOf wm_X6_209 ⟨Nat.le_of_ble_eq_true rfl, Nat.le_of_ble_eq_true rfl⟩ ⟨Nat.zero_le _, Nat.zero_le _⟩ hl.1 rfl (Nat.le_of_ble_eq_true rfl) dX6_gripFor_28 (fun H locs X => ?_)
    refine lv_isub hx hb dX6_gripFor_31 ?_
    refine lv_imul hx hb dX6_gripFor_32 ?_
    refine lv_iload_n hx hb dX6_gripFor_33 rfl (lv_at hl 2 rfl) ?_
    refine lv_sipush (v := 150) hx hb dX6_gripFor_34 (by decide) ?_
    refine lv_isub hx hb dX6_gripFor_37 ?_
    refine lv_imul hx hb dX6_gripFor_38 ?_
    refine lv_ldc hx hb C.2.2.2.1 (C.2.2.2.2 _ wk_X6_212) dX6_gripFor_39 ?_
    refine s_cS0i C hK hA X (c_fdiv l D ty (((f_X6_peakOf sf) * (1000 - (f_X6_slideShareOf sf))) * (sl - 150)) 850000 (by decide)) [] pk_n rfl sl_J9_floorDiv_7cf53 wm_X6_204 ⟨Nat.le_of_ble_eq_true rfl, Nat.le_of_ble_eq_true rfl⟩ ⟨Nat.zero_le _, Nat.zero_le _⟩ hl.1 rfl (Nat.le_of_ble_eq_true rfl) dX6_gripFor_41 (fun H locs X => ?_)
    refine lv_isub hx hb dX6_gripFor_44 ?_
    exact hret _ _ _ _ _ _ dX6_gripFor_45 X rfl (by first | (rw [f_X6_gripFor, if_pos c0_0]; done) | (rw [f_X6_gripFor, if_pos c0_0]; rfl) | (simp only [f_X6_gripFor, if_pos c0_0]; done))
  · refine lv_iload_n hx hb dX6_gripFor_12 rfl (lv_at hl 0 rfl) ?_
    refine lv_iload_n hx hb dX6_gripFor_13 rfl (lv_at hl 2 rfl) ?_
    refine lv_imul hx hb dX6_gripFor_14 ?_
    refine lv_sipush (v := 150) hx hb dX6_gripFor_15 (by decide) ?_
    refine s_cS0i C hK hA X (c_fdiv l D ty ((f_X6_peakOf sf) * sl) 150 (by decide)) [] pk_n rfl sl_J9_floorDiv_7cf53 wm_X6_204 ⟨Nat.le_of_ble_eq_true rfl, Nat.le_of_ble_eq_true rfl⟩ ⟨Nat.zero_le _, Nat.zero_le _⟩ hl.1 rfl (Nat.le_of_ble_eq_true rfl) dX6_gripFor_18 (fun H locs X => ?_)
    exact hret _ _ _ _ _ _ dX6_gripFor_21 X rfl (by first | (rw [f_X6_gripFor, if_neg c0_0]; done) | (rw [f_X6_gripFor, if_neg c0_0]; rfl) | (simp only [f_X6_gripFor, if_neg c0_0]; done))
def f_X6_mix (hh : Int64) (v : Int32) : Int64 := ((31 * hh) + v.toInt64)
set_option maxHeartbeats 4000000 in
set_option maxRecDepth 100000 in
theorem c_X6_mix (l : Launch) (D : va_G) (ty : Nat → ClassId) (hh : Int64) (v : Int32) : MC l D ty yX6_mix cX6_mix 3 (some .long) 0 [.long hh, .int v] [] (some (.long (f_X6_mix hh v))) [] := by
  refine mc_l (by decide +kernel) (Nat.le_of_ble_eq_true rfl) ?_
  intro p e s m args below meth c A Q ls C hK hA X hret hl
  have hx := C.1
  have hb := C.2.1
  have hl : lv_has ls 3 [(0, .long hh), (2, .int v)] := hl
  have X : Wd D A s.heap [] s.heap [] := X
  refine lv_ldc2 hx hb C.2.2.2.1 (C.2.2.2.2 _ wk_X6_213) dX6_mix_0 ?_
  refine lv_lload_n hx hb dX6_mix_3 rfl (lv_at hl 0 rfl) ?_
  refine lv_lmul hx hb dX6_mix_4 ?_
  refine lv_iload_n hx hb dX6_mix_5 rfl (lv_at hl 1 rfl) ?_
  refine lv_i2l hx hb dX6_mix_6 rfl ?_
  refine lv_ladd hx hb dX6_mix_7 ?_
  exact hret _ _ _ _ _ _ dX6_mix_8 X rfl (by first | (rw [f_X6_mix]; done) | (rw [f_X6_mix]; rfl) | (simp only [f_X6_mix]; done))
def f_X6_asNumber (v : Int32) : Int32 := (if v = 0 then 0 else 1)
set_option maxHeartbeats 4000000 in
set_option maxRecDepth 100000 in
theorem c_X6_asNumber (l : Launch) (D : va_G) (ty : Nat → ClassId) (v : Int32) : MC l D ty yX6_asNumber cX6_asNumber 1 (some .int) 0 [.int v] [] (some (.int (f_X6_asNumber v))) [] := by
  refine mc_i (by decide +kernel) (Nat.le_of_ble_eq_true rfl) ?_
  intro p e s m args below meth c A Q ls C hK hA X hret hl
  have hx := C.1
  have hb := C.2.1
  have hl : lv_has ls 1 [(0, .int v)] := hl
  have X : Wd D A s.heap [] s.heap [] := X
  refine lv_iload_n hx hb dX6_asNumber_0 rfl (lv_at hl 0 rfl) ?_
  refine lv_if_eq (tgt := 8) hx hb dX6_asNumber_1 (by decide) (fun c0_0 => ?_) (fun c0_0 => ?_)
  · refine lv_iconst (v := 0) hx hb dX6_asNumber_8 (by decide) ?_
    exact hret _ _ _ _ _ _ dX6_asNumber_9 X rfl (by first | (rw [f_X6_asNumber, if_pos c0_0]; done) | (rw [f_X6_asNumber, if_pos c0_0]; rfl) | (simp only [f_X6_asNumber, if_pos c0_0]; done))
  · refine lv_iconst (v := 1) hx hb dX6_asNumber_4 (by decide) ?_
    refine lv_goto (tgt := 9) hx hb dX6_asNumber_5 (by decide) ?_
    exact hret _ _ _ _ _ _ dX6_asNumber_9 X rfl (by first | (rw [f_X6_asNumber, if_neg c0_0]; done) | (rw [f_X6_asNumber, if_neg c0_0]; rfl) | (simp only [f_X6_asNumber, if_neg c0_0]; done))
theorem rem40 {a b : Nat} (ha : a ≤ 40) (hb : b ≤ 40) : nI a + nI b - (nI a + nI b) / 40 * 40 = nI ((a + b) % 40) := by
  rw [nI_add]; exact pk_rem (d := 40) (by omega) (by decide) (by decide)
theorem rem40_1 {a : Nat} (ha : a ≤ 40) : nI a + 1 - (nI a + 1) / 40 * 40 = nI ((a + 1) % 40) := by
  rw [nI_1]; exact pk_rem (d := 40) (by omega) (by decide) (by decide)
theorem m40 (a : Nat) : a % 40 < 40 := Nat.mod_lt _ (by decide)
theorem eq_of_nIle {a b : Nat} (ha : a < 2 ^ 31) (hb : b < 2 ^ 31) (h : b ≤ a) (c : nI a ≤ nI b) : b = a := Nat.le_antisymm h ((nI_leI ha hb).mp c)
theorem lt_of_nnIle {a b : Nat} (ha : a < 2 ^ 31) (hb : b < 2 ^ 31) (c : ¬ nI a ≤ nI b) : b < a := Nat.not_le.mp (fun q => c ((nI_leI ha hb).mpr q))
theorem ok_X2_clear_h : lgOK 0 0 := ⟨by decide, by decide⟩
set_option maxHeartbeats 4000000 in
set_option maxRecDepth 100000 in
theorem c_X2_clear (l : Launch) (D : va_G) (ty : Nat → ClassId) (h : Nat) (t : Nat) (k : Nat) (v : Nat) (fi : Nat) (lc : Nat) : MC l D ty yX2_clear cX2_clear 1 none 0 [.ref h] [(h, loE fi lc t k v)] none [(h, loE 0 0 t k v)] := by
  refine mc_v (by decide +kernel) (Nat.le_of_ble_eq_true rfl) ?_
  intro p e s m args below meth c A Q ls C hK hA X hret hl
  have hx := C.1
  have hb := C.2.1
  have hl : lv_has ls 1 [(0, .ref h)] := hl
  have X : Wd D A s.heap [(h, loE fi lc t k v)] s.heap [] := X
  refine lv_aload_n hx hb dX2_clear_0 rfl (lv_at hl 0 rfl) ?_
  refine lv_iconst (v := 0) hx hb dX2_clear_1 (by decide) ?_
  refine put_lo_3 C hK X 0 rfl pl_X2_19 rfl dX2_clear_2 (fun H locs X => ?_)
  have X : Wd D A s.heap [(h, loE 0 lc t k v)] H locs := X
  refine lv_aload_n hx hb dX2_clear_5 rfl (lv_at hl 0 rfl) ?_
  refine lv_iconst (v := 0) hx hb dX2_clear_6 (by decide) ?_
  refine put_lo_4 C hK X 0 rfl pl_X2_23 rfl dX2_clear_7 (fun H locs X => ?_)
  have X : Wd D A s.heap [(h, loE 0 0 t k v)] H locs := X
  exact hret _ _ _ _ _ dX2_clear_10 X rfl
set_option maxHeartbeats 4000000 in
set_option maxRecDepth 100000 in
theorem c_X2_rowOf (l : Launch) (D : va_G) (ty : Nat → ClassId) (h : Nat) (t : Nat) (k : Nat) (v : Nat) (fi : Nat) (lc : Nat) (ix : Nat) (hg : lgOK fi lc) (hix : ix ≤ 40) : MC l D ty yX2_rowOf cX2_rowOf 2 (some .int) 0 [.ref h, .int (nI ix)] [(h, loE fi lc t k v)] (some (.int (nI ((fi + ix) % 40)))) [(h, loE fi lc t k v)] := by
  refine mc_i (by decide +kernel) (Nat.le_of_ble_eq_true rfl) ?_
  intro p e s m args below meth c A Q ls C hK hA X hret hl
  have hx := C.1
  have hb := C.2.1
  have hl : lv_has ls 2 [(0, .ref h), (1, .int (nI ix))] := hl
  have X : Wd D A s.heap [(h, loE fi lc t k v)] s.heap [] := X
  have hf : fi < 40 := hg.1
  have hc : lc ≤ 40 := hg.2
  refine lv_aload_n hx hb dX2_rowOf_0 rfl (lv_at hl 0 rfl) ?_
  refine get_lo_3 C hK X 0 rfl fl_X2_19 dX2_rowOf_1 ?_
  refine lv_iload_n hx hb dX2_rowOf_4 rfl (lv_at hl 1 rfl) ?_
  refine lv_iadd hx hb dX2_rowOf_5 ?_
  refine lv_bipush (v := 40) hx hb dX2_rowOf_6 (by decide) ?_
  refine lv_irem hx hb dX2_rowOf_8 (by decide) ?_
  refine s_eqi (y := nI ((fi + ix) % 40)) (rem40 (by omega) (by omega)) ?_
  exact hret _ _ _ _ _ _ dX2_rowOf_9 X rfl rfl
def f_X2_add_h_fi (fi : Nat) (lc : Nat) : Nat := (if 40 ≤ (nI lc) then ((fi + 1) % 40) else fi)
def f_X2_add_h_lc (lc : Nat) : Nat := (if 40 ≤ (nI lc) then lc else (lc + 1))
def f_X2_add_t (fi : Nat) (lc : Nat) (lt : F1) (a : Int32) : F1 := (upd lt ((fi + lc) % 40) a)
def f_X2_add_k (fi : Nat) (lc : Nat) (lk : F1) (b : Int32) : F1 := (upd lk ((fi + lc) % 40) b)
def f_X2_add_v (fi : Nat) (lc : Nat) (lv : F1) (d : Int32) : F1 := (upd lv ((fi + lc) % 40) d)
theorem add_ok {fi lc : Nat} (hg : lgOK fi lc) : lgOK (f_X2_add_h_fi fi lc) (f_X2_add_h_lc lc) := by
  unfold f_X2_add_h_fi f_X2_add_h_lc lgOK
  obtain ⟨hf, hc⟩ := hg
  by_cases q : (40 : Int32) ≤ nI lc
  · rw [if_pos q, if_pos q]; exact ⟨m40 _, hc⟩
  · rw [if_neg q, if_neg q]; exact ⟨hf, by have := lt_of_nnIle (a := 40) (b := lc) (by decide) (by omega) q; omega⟩
theorem ok_X2_add_h (fi : Nat) (lc : Nat) (hg : lgOK fi lc) : lgOK (f_X2_add_h_fi fi lc) (f_X2_add_h_lc lc) := add_ok hg
set_option maxHeartbeats 4000000 in
set_option maxRecDepth 100000 in
theorem c_X2_add (l : Launch) (D : va_G) (ty : Nat → ClassId) (h : Nat) (t : Nat) (k : Nat) (v : Nat) (fi : Nat) (lc : Nat) (lt : F1) (lk : F1) (lv : F1) (a : Int32) (b : Int32) (d : Int32) (hg : lgOK fi lc) : MC l D ty yX2_add cX2_add 5 none 0 [.ref h, .int a, .int b, .int d] [(h, loE fi lc t k v), (t, arE ty 40 lt), (k, arE ty 40 lk), (v, arE ty 40 lv)] none [(h, loE (f_X2_add_h_fi fi lc) (f_X2_add_h_lc lc) t k v), (t, arE ty 40 (f_X2_add_t fi lc lt a)), (k, arE ty 40 (f_X2_add_k fi lc lk b)), (v, arE ty 40 (f_X2_add_v fi lc lv d))] := by
  refine mc_v (by decide +kernel) (Nat.le_of_ble_eq_true rfl) ?_
  intro p e s m args below meth c A Q ls C hK hA X hret hl
  have hx := C.1
  have hb := C.2.1
  have hl : lv_has ls 5 [(0, .ref h), (1, .int a), (2, .int b), (3, .int d)] := hl
  have X : Wd D A s.heap [(h, loE fi lc t k v), (t, arE ty 40 lt), (k, arE ty 40 lk), (v, arE ty 40 lv)] s.heap [] := X
  have hf : fi < 40 := hg.1
  have hc : lc ≤ 40 := hg.2
  refine lv_aload_n hx hb dX2_add_0 rfl (lv_at hl 0 rfl) ?_
  refine get_lo_3 C hK X 0 rfl fl_X2_19 dX2_add_1 ?_
  refine lv_aload_n hx hb dX2_add_4 rfl (lv_at hl 0 rfl) ?_
  refine get_lo_4 C hK X 0 rfl fl_X2_23 dX2_add_5 ?_
  refine lv_iadd hx hb dX2_add_8 ?_
  refine lv_bipush (v := 40) hx hb dX2_add_9 (by decide) ?_
  refine lv_irem hx hb dX2_add_11 (by decide) ?_
  refine s_eqi (y := nI ((fi + lc) % 40)) (rem40 (by omega) (by omega)) ?_
  refine lv_istore (lv' := [(4, .int (nI ((fi + lc) % 40))), (0, .ref h), (1, .int a), (2, .int b), (3, .int d)]) hx hb dX2_add_12 hl (by decide) rfl (fun ls hl => ?_)
  refine lv_aload_n hx hb dX2_add_14 rfl (lv_at hl 1 rfl) ?_
  refine get_lo_0 C hK X 0 rfl fl_X2_9 dX2_add_15 ?_
  refine lv_iload hx hb dX2_add_18 (lv_at hl 0 rfl) ?_
  refine lv_iload_n hx hb dX2_add_20 rfl (lv_at hl 2 rfl) ?_
  refine s_iasN C hK X 1 ((fi + lc) % 40) rfl rfl (m40 _) (by decide) dX2_add_21 (fun H locs X => ?_)
  have X : Wd D A s.heap [(h, loE fi lc t k v), (t, arE ty 40 (upd lt ((fi + lc) % 40) a)), (k, arE ty 40 lk), (v, arE ty 40 lv)] H locs := X
  refine lv_aload_n hx hb dX2_add_22 rfl (lv_at hl 1 rfl) ?_
  refine get_lo_1 C hK X 0 rfl fl_X2_13 dX2_add_23 ?_
  refine lv_iload hx hb dX2_add_26 (lv_at hl 0 rfl) ?_
  refine lv_iload_n hx hb dX2_add_28 rfl (lv_at hl 3 rfl) ?_
  refine s_iasN C hK X 2 ((fi + lc) % 40) rfl rfl (m40 _) (by decide) dX2_add_29 (fun H locs X => ?_)
  have X : Wd D A s.heap [(h, loE fi lc t k v), (t, arE ty 40 (upd lt ((fi + lc) % 40) a)), (k, arE ty 40 (upd lk ((fi + lc) % 40) b)), (v, arE ty 40 lv)] H locs := X
  refine lv_aload_n hx hb dX2_add_30 rfl (lv_at hl 1 rfl) ?_
  refine get_lo_2 C hK X 0 rfl fl_X2_16 dX2_add_31 ?_
  refine lv_iload hx hb dX2_add_34 (lv_at hl 0 rfl) ?_
  refine lv_iload_n hx hb dX2_add_36 rfl (lv_at hl 4 rfl) ?_
  refine s_iasN C hK X 3 ((fi + lc) % 40) rfl rfl (m40 _) (by decide) dX2_add_37 (fun H locs X => ?_)
  have X : Wd D A s.heap [(h, loE fi lc t k v), (t, arE ty 40 (upd lt ((fi + lc) % 40) a)), (k, arE ty 40 (upd lk ((fi + lc) % 40) b)), (v, arE ty 40 (upd lv ((fi + lc) % 40) d))] H locs := X
  refine lv_aload_n hx hb dX2_add_38 rfl (lv_at hl 1 rfl) ?_
  refine get_lo_4 C hK X 0 rfl fl_X2_23 dX2_add_39 ?_
  refine lv_bipush (v := 40) hx hb dX2_add_42 (by decide) ?_
  refine lv_icmp_ge (tgt := 60) hx hb dX2_add_44 (by decide) (fun c0_0 => ?_) (fun c0_0 => ?_)
  · refine lv_aload_n hx hb dX2_add_60 rfl (lv_at hl 1 rfl) ?_
    refine lv_aload_n hx hb dX2_add_61 rfl (lv_at hl 1 rfl) ?_
    refine get_lo_3 C hK X 0 rfl fl_X2_19 dX2_add_62 ?_
    refine lv_iconst (v := 1) hx hb dX2_add_65 (by decide) ?_
    refine lv_iadd hx hb dX2_add_66 ?_
    refine lv_bipush (v := 40) hx hb dX2_add_67 (by decide) ?_
    refine lv_irem hx hb dX2_add_69 (by decide) ?_
    refine s_eqi (y := nI ((fi + 1) % 40)) (rem40_1 (by omega)) ?_
    refine put_lo_3 C hK X 0 rfl pl_X2_19 rfl dX2_add_70 (fun H locs X => ?_)
    have X : Wd D A s.heap [(h, loE ((fi + 1) % 40) lc t k v), (t, arE ty 40 (upd lt ((fi + lc) % 40) a)), (k, arE ty 40 (upd lk ((fi + lc) % 40) b)), (v, arE ty 40 (upd lv ((fi + lc) % 40) d))] H locs := X
    have e_0_0 : (f_X2_add_h_fi fi lc) = ((fi + 1) % 40) := by first | (rw [f_X2_add_h_fi, if_pos c0_0]; done) | (rw [f_X2_add_h_fi, if_pos c0_0]; rfl) | (simp only [f_X2_add_h_fi, if_pos c0_0]; done)
    have e_0_1 : (f_X2_add_h_lc lc) = lc := by first | (rw [f_X2_add_h_lc, if_pos c0_0]; done) | (rw [f_X2_add_h_lc, if_pos c0_0]; rfl) | (simp only [f_X2_add_h_lc, if_pos c0_0]; done)
    have e_1_1 : (f_X2_add_t fi lc lt a) = (upd lt ((fi + lc) % 40) a) := by first | (rw [f_X2_add_t]; done) | (rw [f_X2_add_t]; rfl) | (simp only [f_X2_add_t]; done)
    have e_2_1 : (f_X2_add_k fi lc lk b) = (upd lk ((fi + lc) % 40) b) := by first | (rw [f_X2_add_k]; done) | (rw [f_X2_add_k]; rfl) | (simp only [f_X2_add_k]; done)
    have e_3_1 : (f_X2_add_v fi lc lv d) = (upd lv ((fi + lc) % 40) d) := by first | (rw [f_X2_add_v]; done) | (rw [f_X2_add_v]; rfl) | (simp only [f_X2_add_v]; done)
    exact hret _ _ _ _ _ dX2_add_73 X (by rw [e_0_0, e_0_1, e_1_1, e_2_1, e_3_1])
  · refine lv_aload_n hx hb dX2_add_47 rfl (lv_at hl 1 rfl) ?_
    refine lv_dup hx hb dX2_add_48 rfl ?_
    refine get_lo_4 C hK X 0 rfl fl_X2_23 dX2_add_49 ?_
    refine lv_iconst (v := 1) hx hb dX2_add_52 (by decide) ?_
    refine lv_iadd hx hb dX2_add_53 ?_
    refine s_eqi (y := nI (lc + 1)) (nI_1 lc) ?_
    refine put_lo_4 C hK X 0 rfl pl_X2_23 rfl dX2_add_54 (fun H locs X => ?_)
    have X : Wd D A s.heap [(h, loE fi (lc + 1) t k v), (t, arE ty 40 (upd lt ((fi + lc) % 40) a)), (k, arE ty 40 (upd lk ((fi + lc) % 40) b)), (v, arE ty 40 (upd lv ((fi + lc) % 40) d))] H locs := X
    refine lv_goto (tgt := 73) hx hb dX2_add_57 (by decide) ?_
    have e_0_0 : (f_X2_add_h_fi fi lc) = fi := by first | (rw [f_X2_add_h_fi, if_neg c0_0]; done) | (rw [f_X2_add_h_fi, if_neg c0_0]; rfl) | (simp only [f_X2_add_h_fi, if_neg c0_0]; done)
    have e_0_1 : (f_X2_add_h_lc lc) = (lc + 1) := by first | (rw [f_X2_add_h_lc, if_neg c0_0]; done) | (rw [f_X2_add_h_lc, if_neg c0_0]; rfl) | (simp only [f_X2_add_h_lc, if_neg c0_0]; done)
    have e_1_1 : (f_X2_add_t fi lc lt a) = (upd lt ((fi + lc) % 40) a) := by first | (rw [f_X2_add_t]; done) | (rw [f_X2_add_t]; rfl) | (simp only [f_X2_add_t]; done)
    have e_2_1 : (f_X2_add_k fi lc lk b) = (upd lk ((fi + lc) % 40) b) := by first | (rw [f_X2_add_k]; done) | (rw [f_X2_add_k]; rfl) | (simp only [f_X2_add_k]; done)
    have e_3_1 : (f_X2_add_v fi lc lv d) = (upd lv ((fi + lc) % 40) d) := by first | (rw [f_X2_add_v]; done) | (rw [f_X2_add_v]; rfl) | (simp only [f_X2_add_v]; done)
    exact hret _ _ _ _ _ dX2_add_73 X (by rw [e_0_0, e_0_1, e_1_1, e_2_1, e_3_1])
def f_X2_value (fi : Nat) (lt : F1) (lk : F1) (lv : F1) (ix : Nat) (wt : Int32) : Int32 := (if wt = 0 then (lt ((fi + ix) % 40)) else (if wt = 1 then (lk ((fi + ix) % 40)) else (lv ((fi + ix) % 40))))
set_option maxHeartbeats 4000000 in
set_option maxRecDepth 100000 in
theorem c_X2_value (l : Launch) (D : va_G) (ty : Nat → ClassId) (h : Nat) (t : Nat) (k : Nat) (v : Nat) (fi : Nat) (lc : Nat) (lt : F1) (lk : F1) (lv : F1) (ix : Nat) (wt : Int32) (hg : lgOK fi lc) (hix : ix ≤ 40) : MC l D ty yX2_value cX2_value 4 (some .int) 1 [.ref h, .int (nI ix), .int wt] [(h, loE fi lc t k v), (t, arE ty 40 lt), (k, arE ty 40 lk), (v, arE ty 40 lv)] (some (.int (f_X2_value fi lt lk lv ix wt))) [(h, loE fi lc t k v), (t, arE ty 40 lt), (k, arE ty 40 lk), (v, arE ty 40 lv)] := by
  refine mc_i (by decide +kernel) (Nat.le_of_ble_eq_true rfl) ?_
  intro p e s m args below meth c A Q ls C hK hA X hret hl
  have hx := C.1
  have hb := C.2.1
  have hl : lv_has ls 4 [(0, .ref h), (1, .int (nI ix)), (2, .int wt)] := hl
  have X : Wd D A s.heap [(h, loE fi lc t k v), (t, arE ty 40 lt), (k, arE ty 40 lk), (v, arE ty 40 lv)] s.heap [] := X
  have hf : fi < 40 := hg.1
  have hc : lc ≤ 40 := hg.2
  refine lv_aload_n hx hb dX2_value_0 rfl (lv_at hl 0 rfl) ?_
  refine lv_iload_n hx hb dX2_value_1 rfl (lv_at hl 1 rfl) ?_
  refine s_cV0i C hK hA X (c_X2_rowOf l D ty h t k v fi lc ix hg (by assumption)) [0] (pk_c rfl pk_n) rfl ml_X2_rowOf wm_X2_32 (q0 := 0) rfl rfl rfl ⟨Nat.le_of_ble_eq_true rfl, Nat.le_of_ble_eq_true rfl⟩ ⟨Nat.zero_le _, Nat.zero_le _⟩ hl.1 rfl (Nat.le_of_ble_eq_true rfl) dX2_value_2 (fun H locs X => ?_)
  refine lv_istore_n (lv' := [(3, .int (nI ((fi + ix) % 40))), (0, .ref h), (1, .int (nI ix)), (2, .int wt)]) hx hb dX2_value_5 rfl hl (by decide) rfl (fun ls hl => ?_)
  refine lv_iload_n hx hb dX2_value_6 rfl (lv_at hl 3 rfl) ?_
  by_cases c0_0 : wt = 0
  · refine lv_lookup (off := 25) (tgt := 32) hx hb dX2_value_7 (by decide) (by rw [c0_0]; rfl) (by decide) ?_
    refine lv_aload_n hx hb dX2_value_32 rfl (lv_at hl 1 rfl) ?_
    refine get_lo_0 C hK X 0 rfl fl_X2_9 dX2_value_33 ?_
    refine lv_iload_n hx hb dX2_value_36 rfl (lv_at hl 0 rfl) ?_
    refine s_ialN C hK X 1 ((fi + ix) % 40) rfl rfl (m40 _) (by decide) dX2_value_37 ?_
    exact hret _ _ _ _ _ _ dX2_value_38 X rfl (by first | (rw [f_X2_value, if_pos c0_0]; done) | (rw [f_X2_value, if_pos c0_0]; rfl) | (simp only [f_X2_value, if_pos c0_0]; done))
  · by_cases c1_1 : wt = 1
    · refine lv_lookup (off := 32) (tgt := 39) hx hb dX2_value_7 (by decide) (by rw [c1_1]; rfl) (by decide) ?_
      refine lv_aload_n hx hb dX2_value_39 rfl (lv_at hl 1 rfl) ?_
      refine get_lo_1 C hK X 0 rfl fl_X2_13 dX2_value_40 ?_
      refine lv_iload_n hx hb dX2_value_43 rfl (lv_at hl 0 rfl) ?_
      refine s_ialN C hK X 2 ((fi + ix) % 40) rfl rfl (m40 _) (by decide) dX2_value_44 ?_
      exact hret _ _ _ _ _ _ dX2_value_45 X rfl (by first | (rw [f_X2_value, if_neg c0_0, if_pos c1_1]; done) | (rw [f_X2_value, if_neg c0_0, if_pos c1_1]; rfl) | (simp only [f_X2_value, if_neg c0_0, if_pos c1_1]; done))
    · refine lv_lookup (off := 39) (tgt := 46) hx hb dX2_value_7 (by decide) (lk_out2 c0_0 c1_1) (by decide) ?_
      refine lv_aload_n hx hb dX2_value_46 rfl (lv_at hl 1 rfl) ?_
      refine get_lo_2 C hK X 0 rfl fl_X2_16 dX2_value_47 ?_
      refine lv_iload_n hx hb dX2_value_50 rfl (lv_at hl 0 rfl) ?_
      refine s_ialN C hK X 3 ((fi + ix) % 40) rfl rfl (m40 _) (by decide) dX2_value_51 ?_
      exact hret _ _ _ _ _ _ dX2_value_52 X rfl (by first | (rw [f_X2_value, if_neg c0_0, if_neg c1_1]; done) | (rw [f_X2_value, if_neg c0_0, if_neg c1_1]; rfl) | (simp only [f_X2_value, if_neg c0_0, if_neg c1_1]; done))
def f_X2_copyFrom_t (lt : F1) (lt2 : F1) : F1 := (va_cpy lt2 lt 0 0 40)
def f_X2_copyFrom_k (lk : F1) (lk2 : F1) : F1 := (va_cpy lk2 lk 0 0 40)
def f_X2_copyFrom_v (lv : F1) (lv2 : F1) : F1 := (va_cpy lv2 lv 0 0 40)
theorem ok_X2_copyFrom_h (fi2 : Nat) (lc2 : Nat) (tk_h2 : lgOK fi2 lc2) : lgOK fi2 lc2 := tk_h2
set_option maxHeartbeats 4000000 in
set_option maxRecDepth 100000 in
theorem c_X2_copyFrom (l : Launch) (D : va_G) (ty : Nat → ClassId) (h : Nat) (t : Nat) (k : Nat) (v : Nat) (fi : Nat) (lc : Nat) (lt : F1) (lk : F1) (lv : F1) (h2 : Nat) (t2 : Nat) (k2 : Nat) (v2 : Nat) (fi2 : Nat) (lc2 : Nat) (lt2 : F1) (lk2 : F1) (lv2 : F1) : MC l D ty yX2_copyFrom cX2_copyFrom 2 none 1 [.ref h, .ref h2] [(h, loE fi lc t k v), (t, arE ty 40 lt), (k, arE ty 40 lk), (v, arE ty 40 lv), (h2, loE fi2 lc2 t2 k2 v2), (t2, arE ty 40 lt2), (k2, arE ty 40 lk2), (v2, arE ty 40 lv2)] none [(h, loE fi2 lc2 t k v), (t, arE ty 40 (f_X2_copyFrom_t lt lt2)), (k, arE ty 40 (f_X2_copyFrom_k lk lk2)), (v, arE ty 40 (f_X2_copyFrom_v lv lv2)), (h2, loE fi2 lc2 t2 k2 v2), (t2, arE ty 40 lt2), (k2, arE ty 40 lk2), (v2, arE ty 40 lv2)] := by
  refine mc_v (by decide +kernel) (Nat.le_of_ble_eq_true rfl) ?_
  intro p e s m args below meth c A Q ls C hK hA X hret hl
  have hx := C.1
  have hb := C.2.1
  have hl : lv_has ls 2 [(0, .ref h), (1, .ref h2)] := hl
  have X : Wd D A s.heap [(h, loE fi lc t k v), (t, arE ty 40 lt), (k, arE ty 40 lk), (v, arE ty 40 lv), (h2, loE fi2 lc2 t2 k2 v2), (t2, arE ty 40 lt2), (k2, arE ty 40 lk2), (v2, arE ty 40 lv2)] s.heap [] := X
  refine lv_aload_n hx hb dX2_copyFrom_0 rfl (lv_at hl 1 rfl) ?_
  refine get_lo_0 C hK X 4 rfl fl_X2_9 dX2_copyFrom_1 ?_
  refine lv_iconst (v := 0) hx hb dX2_copyFrom_4 (by decide) ?_
  refine lv_aload_n hx hb dX2_copyFrom_5 rfl (lv_at hl 0 rfl) ?_
  refine get_lo_0 C hK X 0 rfl fl_X2_9 dX2_copyFrom_6 ?_
  refine lv_iconst (v := 0) hx hb dX2_copyFrom_9 (by decide) ?_
  refine lv_bipush (v := 40) hx hb dX2_copyFrom_10 (by decide) ?_
  refine s_copyN C hK X hl.1 wm_X2_26 5 1 0 0 40 rfl rfl rfl rfl rfl (by decide) (by decide) (by decide) (by decide) (Nat.le_of_ble_eq_true rfl) (Nat.le_of_ble_eq_true rfl) dX2_copyFrom_12 (fun H locs X => ?_)
  have X : Wd D A s.heap [(h, loE fi lc t k v), (t, arE ty 40 (va_cpy lt2 lt 0 0 40)), (k, arE ty 40 lk), (v, arE ty 40 lv), (h2, loE fi2 lc2 t2 k2 v2), (t2, arE ty 40 lt2), (k2, arE ty 40 lk2), (v2, arE ty 40 lv2)] H locs := X
  refine lv_aload_n hx hb dX2_copyFrom_15 rfl (lv_at hl 1 rfl) ?_
  refine get_lo_1 C hK X 4 rfl fl_X2_13 dX2_copyFrom_16 ?_
  refine lv_iconst (v := 0) hx hb dX2_copyFrom_19 (by decide) ?_
  refine lv_aload_n hx hb dX2_copyFrom_20 rfl (lv_at hl 0 rfl) ?_
  refine get_lo_1 C hK X 0 rfl fl_X2_13 dX2_copyFrom_21 ?_
  refine lv_iconst (v := 0) hx hb dX2_copyFrom_24 (by decide) ?_
  refine lv_bipush (v := 40) hx hb dX2_copyFrom_25 (by decide) ?_
  refine s_copyN C hK X hl.1 wm_X2_26 6 2 0 0 40 rfl rfl rfl rfl rfl (by decide) (by decide) (by decide) (by decide) (Nat.le_of_ble_eq_true rfl) (Nat.le_of_ble_eq_true rfl) dX2_copyFrom_27 (fun H locs X => ?_)
  have X : Wd D A s.heap [(h, loE fi lc t k v), (t, arE ty 40 (va_cpy lt2 lt 0 0 40)), (k, arE ty 40 (va_cpy lk2 lk 0 0 40)), (v, arE ty 40 lv), (h2, loE fi2 lc2 t2 k2 v2), (t2, arE ty 40 lt2), (k2, arE ty 40 lk2), (v2, arE ty 40 lv2)] H locs := X
  refine lv_aload_n hx hb dX2_copyFrom_30 rfl (lv_at hl 1 rfl) ?_
  refine get_lo_2 C hK X 4 rfl fl_X2_16 dX2_copyFrom_31 ?_
  refine lv_iconst (v := 0) hx hb dX2_copyFrom_34 (by decide) ?_
  refine lv_aload_n hx hb dX2_copyFrom_35 rfl (lv_at hl 0 rfl) ?_
  refine get_lo_2 C hK X 0 rfl fl_X2_16 dX2_copyFrom_36 ?_
  refine lv_iconst (v := 0) hx hb dX2_copyFrom_39 (by decide) ?_
  refine lv_bipush (v := 40) hx hb dX2_copyFrom_40 (by decide) ?_
  refine s_copyN C hK X hl.1 wm_X2_26 7 3 0 0 40 rfl rfl rfl rfl rfl (by decide) (by decide) (by decide) (by decide) (Nat.le_of_ble_eq_true rfl) (Nat.le_of_ble_eq_true rfl) dX2_copyFrom_42 (fun H locs X => ?_)
  have X : Wd D A s.heap [(h, loE fi lc t k v), (t, arE ty 40 (va_cpy lt2 lt 0 0 40)), (k, arE ty 40 (va_cpy lk2 lk 0 0 40)), (v, arE ty 40 (va_cpy lv2 lv 0 0 40)), (h2, loE fi2 lc2 t2 k2 v2), (t2, arE ty 40 lt2), (k2, arE ty 40 lk2), (v2, arE ty 40 lv2)] H locs := X
  refine lv_aload_n hx hb dX2_copyFrom_45 rfl (lv_at hl 0 rfl) ?_
  refine lv_aload_n hx hb dX2_copyFrom_46 rfl (lv_at hl 1 rfl) ?_
  refine get_lo_3 C hK X 4 rfl fl_X2_19 dX2_copyFrom_47 ?_
  refine put_lo_3 C hK X 0 rfl pl_X2_19 rfl dX2_copyFrom_50 (fun H locs X => ?_)
  have X : Wd D A s.heap [(h, loE fi2 lc t k v), (t, arE ty 40 (va_cpy lt2 lt 0 0 40)), (k, arE ty 40 (va_cpy lk2 lk 0 0 40)), (v, arE ty 40 (va_cpy lv2 lv 0 0 40)), (h2, loE fi2 lc2 t2 k2 v2), (t2, arE ty 40 lt2), (k2, arE ty 40 lk2), (v2, arE ty 40 lv2)] H locs := X
  refine lv_aload_n hx hb dX2_copyFrom_53 rfl (lv_at hl 0 rfl) ?_
  refine lv_aload_n hx hb dX2_copyFrom_54 rfl (lv_at hl 1 rfl) ?_
  refine get_lo_4 C hK X 4 rfl fl_X2_23 dX2_copyFrom_55 ?_
  refine put_lo_4 C hK X 0 rfl pl_X2_23 rfl dX2_copyFrom_58 (fun H locs X => ?_)
  have X : Wd D A s.heap [(h, loE fi2 lc2 t k v), (t, arE ty 40 (va_cpy lt2 lt 0 0 40)), (k, arE ty 40 (va_cpy lk2 lk 0 0 40)), (v, arE ty 40 (va_cpy lv2 lv 0 0 40)), (h2, loE fi2 lc2 t2 k2 v2), (t2, arE ty 40 lt2), (k2, arE ty 40 lk2), (v2, arE ty 40 lv2)] H locs := X
  have e_1_1 : (f_X2_copyFrom_t lt lt2) = (va_cpy lt2 lt 0 0 40) := by first | (rw [f_X2_copyFrom_t]; done) | (rw [f_X2_copyFrom_t]; rfl) | (simp only [f_X2_copyFrom_t]; done)
  have e_2_1 : (f_X2_copyFrom_k lk lk2) = (va_cpy lk2 lk 0 0 40) := by first | (rw [f_X2_copyFrom_k]; done) | (rw [f_X2_copyFrom_k]; rfl) | (simp only [f_X2_copyFrom_k]; done)
  have e_3_1 : (f_X2_copyFrom_v lv lv2) = (va_cpy lv2 lv 0 0 40) := by first | (rw [f_X2_copyFrom_v]; done) | (rw [f_X2_copyFrom_v]; rfl) | (simp only [f_X2_copyFrom_v]; done)
  exact hret _ _ _ _ _ dX2_copyFrom_61 X (by rw [e_1_1, e_2_1, e_3_1])
def mixLog (fi : Nat) (lt lk lv : F1) (h : Int64) : Nat → Int64
  | 0 => h
  | i + 1 => f_X6_mix (f_X6_mix (f_X6_mix (mixLog fi lt lk lv h i) (lt ((fi + i) % 40))) (lk ((fi + i) % 40))) (lv ((fi + i) % 40))
def f_X2_mixInto (fi : Nat) (lc : Nat) (lt : F1) (lk : F1) (lv : F1) (hh : Int64) : Int64 := (mixLog fi lt lk lv (f_X6_mix hh (nI lc)) lc)
set_option maxHeartbeats 4000000 in
set_option maxRecDepth 100000 in
theorem c_X2_mixInto (l : Launch) (D : va_G) (ty : Nat → ClassId) (h : Nat) (t : Nat) (k : Nat) (v : Nat) (fi : Nat) (lc : Nat) (lt : F1) (lk : F1) (lv : F1) (hh : Int64) (hg : lgOK fi lc) : MC l D ty yX2_mixInto cX2_mixInto 7 (some .long) 1 [.ref h, .long hh] [(h, loE fi lc t k v), (t, arE ty 40 lt), (k, arE ty 40 lk), (v, arE ty 40 lv)] (some (.long (f_X2_mixInto fi lc lt lk lv hh))) [(h, loE fi lc t k v), (t, arE ty 40 lt), (k, arE ty 40 lk), (v, arE ty 40 lv)] := by
  refine mc_l (by decide +kernel) (Nat.le_of_ble_eq_true rfl) ?_
  intro p e s m args below meth c A Q ls C hK hA X hret hl
  have hx := C.1
  have hb := C.2.1
  have hl : lv_has ls 7 [(0, .ref h), (1, .long hh)] := hl
  have X : Wd D A s.heap [(h, loE fi lc t k v), (t, arE ty 40 lt), (k, arE ty 40 lk), (v, arE ty 40 lv)] s.heap [] := X
  have hf : fi < 40 := hg.1
  have hc : lc ≤ 40 := hg.2
  refine lv_lload_n hx hb dX2_mixInto_0 rfl (lv_at hl 1 rfl) ?_
  refine lv_aload_n hx hb dX2_mixInto_1 rfl (lv_at hl 0 rfl) ?_
  refine get_lo_4 C hK X 0 rfl fl_X2_23 dX2_mixInto_2 ?_
  refine s_cN0l C hK hA X (c_X6_mix l D ty hh (nI lc)) [] pk_n rfl sl_X6_mix nw_X2_36 ⟨Nat.le_of_ble_eq_true rfl, Nat.le_of_ble_eq_true rfl⟩ ⟨Nat.zero_le _, Nat.zero_le _⟩ hl.1 rfl (Nat.le_of_ble_eq_true rfl) dX2_mixInto_5 (fun H locs X => ?_)
  refine lv_lstore_n (lv' := [(3, .long (f_X6_mix hh (nI lc))), (0, .ref h), (1, .long hh)]) hx hb dX2_mixInto_8 rfl hl (by decide) rfl (fun ls hl => ?_)
  refine lv_iconst (v := 0) hx hb dX2_mixInto_9 (by decide) ?_
  refine lv_istore (lv' := [(5, .int 0), (3, .long (f_X6_mix hh (nI lc))), (0, .ref h), (1, .long hh)]) hx hb dX2_mixInto_10 hl (by decide) rfl (fun ls hl => ?_)
  have K1 : ∀ (y1_0 : Int32) (y1_1 : Int64) (ls : Array Slot) (H : Heap) (locs : List Loc), y1_0 = (nI lc) → y1_1 = (mixLog fi lt lk lv (f_X6_mix hh (nI lc)) lc) → lv_has ls 7 [(5, .int y1_0), (3, .long y1_1), (0, .ref h), (1, .long hh)] → Wd D A s.heap [(h, loE fi lc t k v), (t, arE ty 40 lt), (k, arE ty 40 lk), (v, arE ty 40 lv)] H locs → W p l e (rmD 1) s m args below meth c H locs 0 0 Q (F0 m 67 ls []) := by
    intro y1_0 y1_1 ls H locs ey1_0 ey1_1 hl X
    subst ey1_0; subst ey1_1
    refine lv_lload_n hx hb dX2_mixInto_67 rfl (lv_at hl 1 rfl) ?_
    exact hret _ _ _ _ _ _ dX2_mixInto_68 X rfl (by first | (rw [f_X2_mixInto]; done) | (rw [f_X2_mixInto]; rfl) | (simp only [f_X2_mixInto]; done))
  have L1 : ∀ (kf i : Nat) (y1_0 : Int32) (y1_1 : Int64) (ls : Array Slot) (H : Heap) (locs : List Loc), lc - i < kf → (i ≤ lc) → y1_0 = (nI i) → y1_1 = (mixLog fi lt lk lv (f_X6_mix hh (nI lc)) i) → lv_has ls 7 [(5, .int y1_0), (3, .long y1_1), (0, .ref h), (1, .long hh)] → Wd D A s.heap [(h, loE fi lc t k v), (t, arE ty 40 lt), (k, arE ty 40 lk), (v, arE ty 40 lv)] H locs → W p l e (rmD 1) s m args below meth c H locs 0 0 Q (F0 m 12 ls []) := by
    intro kf
    induction kf with
    | zero => intro i y1_0 y1_1 ls H locs hk; exact absurd hk (Nat.not_lt_zero _)
    | succ kf ih1 =>
      intro i y1_0 y1_1 ls H locs hk hI ey1_0 ey1_1 hl X
      subst ey1_0; subst ey1_1
      refine lv_iload hx hb dX2_mixInto_12 (lv_at hl 0 rfl) ?_
      refine lv_aload_n hx hb dX2_mixInto_14 rfl (lv_at hl 2 rfl) ?_
      refine get_lo_4 C hK X 0 rfl fl_X2_23 dX2_mixInto_15 ?_
      refine lv_icmp_ge (tgt := 67) hx hb dX2_mixInto_18 (by decide) (fun c0_0 => ?_) (fun c0_0 => ?_)
      · have hE : i = lc := eq_of_nIle (by omega) (by omega) hI c0_0
        exact K1 (nI i) (mixLog fi lt lk lv (f_X6_mix hh (nI lc)) i) _ _ _ (by rw [hE]) (by rw [hE]) (lv_sub hl [0, 1, 2, 3] rfl) X
      · have h1 : i < lc := lt_of_nnIle (by omega) (by omega) c0_0
        refine lv_aload_n hx hb dX2_mixInto_21 rfl (lv_at hl 2 rfl) ?_
        refine lv_iload hx hb dX2_mixInto_22 (lv_at hl 0 rfl) ?_
        refine s_cV0i C hK hA X (c_X2_rowOf l D ty h t k v fi lc i hg (by omega)) [0] (pk_c rfl pk_n) rfl ml_X2_rowOf wm_X2_32 (q0 := 0) rfl rfl rfl ⟨Nat.le_of_ble_eq_true rfl, Nat.le_of_ble_eq_true rfl⟩ ⟨Nat.zero_le _, Nat.zero_le _⟩ hl.1 rfl (Nat.le_of_ble_eq_true rfl) dX2_mixInto_24 (fun H locs X => ?_)
        refine lv_istore (lv' := [(6, .int (nI ((fi + i) % 40))), (5, .int (nI i)), (3, .long (mixLog fi lt lk lv (f_X6_mix hh (nI lc)) i)), (0, .ref h), (1, .long hh)]) hx hb dX2_mixInto_27 hl (by decide) rfl (fun ls hl => ?_)
        refine lv_lload_n hx hb dX2_mixInto_29 rfl (lv_at hl 2 rfl) ?_
        refine lv_aload_n hx hb dX2_mixInto_30 rfl (lv_at hl 3 rfl) ?_
        refine get_lo_0 C hK X 0 rfl fl_X2_9 dX2_mixInto_31 ?_
        refine lv_iload hx hb dX2_mixInto_34 (lv_at hl 0 rfl) ?_
        refine s_ialN C hK X 1 ((fi + i) % 40) rfl rfl (m40 _) (by decide) dX2_mixInto_36 ?_
        refine s_cN0l C hK hA X (c_X6_mix l D ty (mixLog fi lt lk lv (f_X6_mix hh (nI lc)) i) (lt ((fi + i) % 40))) [] pk_n rfl sl_X6_mix nw_X2_36 ⟨Nat.le_of_ble_eq_true rfl, Nat.le_of_ble_eq_true rfl⟩ ⟨Nat.zero_le _, Nat.zero_le _⟩ hl.1 rfl (Nat.le_of_ble_eq_true rfl) dX2_mixInto_37 (fun H locs X => ?_)
        refine lv_aload_n hx hb dX2_mixInto_40 rfl (lv_at hl 3 rfl) ?_
        refine get_lo_1 C hK X 0 rfl fl_X2_13 dX2_mixInto_41 ?_
        refine lv_iload hx hb dX2_mixInto_44 (lv_at hl 0 rfl) ?_
        refine s_ialN C hK X 2 ((fi + i) % 40) rfl rfl (m40 _) (by decide) dX2_mixInto_46 ?_
        refine s_cN0l C hK hA X (c_X6_mix l D ty (f_X6_mix (mixLog fi lt lk lv (f_X6_mix hh (nI lc)) i) (lt ((fi + i) % 40))) (lk ((fi + i) % 40))) [] pk_n rfl sl_X6_mix nw_X2_36 ⟨Nat.le_of_ble_eq_true rfl, Nat.le_of_ble_eq_true rfl⟩ ⟨Nat.zero_le _, Nat.zero_le _⟩ hl.1 rfl (Nat.le_of_ble_eq_true rfl) dX2_mixInto_47 (fun H locs X => ?_)
        refine lv_aload_n hx hb dX2_mixInto_50 rfl (lv_at hl 3 rfl) ?_
        refine get_lo_2 C hK X 0 rfl fl_X2_16 dX2_mixInto_51 ?_
        refine lv_iload hx hb dX2_mixInto_54 (lv_at hl 0 rfl) ?_
        refine s_ialN C hK X 3 ((fi + i) % 40) rfl rfl (m40 _) (by decide) dX2_mixInto_56 ?_
        refine s_cN0l C hK hA X (c_X6_mix l D ty (f_X6_mix (f_X6_mix (mixLog fi lt lk lv (f_X6_mix hh (nI lc)) i) (lt ((fi + i) % 40))) (lk ((fi + i) % 40))) (lv ((fi + i) % 40))) [] pk_n rfl sl_X6_mix nw_X2_36 ⟨Nat.le_of_ble_eq_true rfl, Nat.le_of_ble_eq_true rfl⟩ ⟨Nat.zero_le _, Nat.zero_le _⟩ hl.1 rfl (Nat.le_of_ble_eq_true rfl) dX2_mixInto_57 (fun H locs X => ?_)
        refine lv_lstore_n (lv' := [(3, .long (f_X6_mix (f_X6_mix (f_X6_mix (mixLog fi lt lk lv (f_X6_mix hh (nI lc)) i) (lt ((fi + i) % 40))) (lk ((fi + i) % 40))) (lv ((fi + i) % 40)))), (6, .int (nI ((fi + i) % 40))), (5, .int (nI i)), (0, .ref h), (1, .long hh)]) hx hb dX2_mixInto_60 rfl hl (by decide) rfl (fun ls hl => ?_)
        refine lv_iinc (v := ((nI i) + 1)) (lv' := [(5, .int ((nI i) + 1)), (3, .long (f_X6_mix (f_X6_mix (f_X6_mix (mixLog fi lt lk lv (f_X6_mix hh (nI lc)) i) (lt ((fi + i) % 40))) (lk ((fi + i) % 40))) (lv ((fi + i) % 40)))), (6, .int (nI ((fi + i) % 40))), (0, .ref h), (1, .long hh)]) hx hb dX2_mixInto_61 hl (k := 2) rfl rfl (by decide) rfl (fun ls hl => ?_)
        refine lv_goto (tgt := 12) hx hb dX2_mixInto_64 (by decide) ?_
        exact ih1 (i + 1) ((nI i) + 1) (f_X6_mix (f_X6_mix (f_X6_mix (mixLog fi lt lk lv (f_X6_mix hh (nI lc)) i) (lt ((fi + i) % 40))) (lk ((fi + i) % 40))) (lv ((fi + i) % 40))) _ _ _ (by omega) (by omega) (nI_1 i) rfl (lv_sub hl [0, 1, 3, 4] rfl) X
  exact L1 (lc + 1) 0 0 (f_X6_mix hh (nI lc)) _ _ _ (by omega) (Nat.zero_le _) rfl rfl (lv_sub hl [0, 1, 2, 3] rfl) X
/-- the first place from i on, within k steps, where P fails -/
def scanB (P : Nat → Bool) : Nat → Nat → Nat
  | 0, i => i
  | k + 1, i => if P i = true then scanB P k (i + 1) else i
theorem scan_stop {P : Nat → Bool} {k i : Nat} (h : P i = false) : scanB P k i = i := by
  cases k with
  | zero => rfl
  | succ k => show (if P i = true then scanB P k (i + 1) else i) = i; rw [h]; rfl
theorem scan_go {P : Nat → Bool} {k i : Nat} (hk : 0 < k) (h : P i = true) : scanB P (k - 1) (i + 1) = scanB P k i := by
  cases k with
  | zero => omega
  | succ k => show scanB P k (i + 1) = (if P i = true then scanB P k (i + 1) else i); rw [if_pos h]
theorem scan_le {P : Nat → Bool} : ∀ (k i : Nat), i ≤ scanB P k i ∧ scanB P k i ≤ i + k
  | 0, i => ⟨Nat.le_refl _, Nat.le_refl _⟩
  | k + 1, i => by
    show i ≤ (if P i = true then scanB P k (i + 1) else i) ∧ (if P i = true then scanB P k (i + 1) else i) ≤ i + (k + 1)
    split
    · have := scan_le (P := P) k (i + 1); omega
    · omega
theorem scan_all {P : Nat → Bool} : ∀ (k i j : Nat), i ≤ j → j < scanB P k i → P j = true
  | 0, i, j, h1, h2 => by simp only [scanB] at h2; omega
  | k + 1, i, j, h1, h2 => by
    have e : scanB P (k + 1) i = (if P i = true then scanB P k (i + 1) else i) := rfl
    rw [e] at h2
    split at h2
    · rename_i hp
      rcases Nat.lt_or_ge i j with q | q
      · exact scan_all k (i + 1) j q h2
      · rw [show j = i by omega]; exact hp
    · omega
theorem scan_end {P : Nat → Bool} : ∀ (k i : Nat), scanB P k i < i + k → P (scanB P k i) = false
  | 0, i, h => by simp only [scanB] at h; omega
  | k + 1, i, h => by
    have e : scanB P (k + 1) i = (if P i = true then scanB P k (i + 1) else i) := rfl
    rw [e] at h ⊢
    split
    · rename_i hp
      rw [if_pos hp] at h
      exact scan_end k (i + 1) (by omega)
    · rename_i hp
      exact Bool.eq_false_iff.mpr hp
def untP (pn : Nat) (pt : F1) (T : Int32) : Nat → Bool := fun i => decide (i < pn) && decide (pt i ≤ T)
def unt (pn : Nat) (pt : F1) (T : Int32) : Nat := scanB (untP pn pt T) 10 0
theorem unt_le {pn : Nat} {pt : F1} {T : Int32} (h : pn ≤ 10) : unt pn pt T ≤ pn := by
  rcases Nat.lt_or_ge pn (unt pn pt T) with q | q
  · have := scan_all (P := untP pn pt T) 10 0 pn (Nat.zero_le _) q
    simp [untP] at this
  · exact q
theorem ok_X4_clear_h : pnOK 0 := Nat.zero_le _
set_option maxHeartbeats 4000000 in
set_option maxRecDepth 100000 in
theorem c_X4_clear (l : Launch) (D : va_G) (ty : Nat → ClassId) (h : Nat) (t : Nat) (d : Nat) (pn : Nat) : MC l D ty yX4_clear cX4_clear 1 none 0 [.ref h] [(h, scE pn t d)] none [(h, scE 0 t d)] := by
  refine mc_v (by decide +kernel) (Nat.le_of_ble_eq_true rfl) ?_
  intro p e s m args below meth c A Q ls C hK hA X hret hl
  have hx := C.1
  have hb := C.2.1
  have hl : lv_has ls 1 [(0, .ref h)] := hl
  have X : Wd D A s.heap [(h, scE pn t d)] s.heap [] := X
  refine lv_aload_n hx hb dX4_clear_0 rfl (lv_at hl 0 rfl) ?_
  refine lv_iconst (v := 0) hx hb dX4_clear_1 (by decide) ?_
  refine put_sc_2 C hK X 0 rfl pl_X4_16 rfl dX4_clear_2 (fun H locs X => ?_)
  have X : Wd D A s.heap [(h, scE 0 t d)] H locs := X
  exact hret _ _ _ _ _ dX4_clear_5 X rfl
def f_X4_copyFrom_t (pt : F1) (pt2 : F1) : F1 := (va_cpy pt2 pt 0 0 10)
def f_X4_copyFrom_d (pd : F1) (pd2 : F1) : F1 := (va_cpy pd2 pd 0 0 10)
theorem ok_X4_copyFrom_h (pn2 : Nat) (tk_h2 : pnOK pn2) : pnOK pn2 := tk_h2
set_option maxHeartbeats 4000000 in
set_option maxRecDepth 100000 in
theorem c_X4_copyFrom (l : Launch) (D : va_G) (ty : Nat → ClassId) (h : Nat) (t : Nat) (d : Nat) (pn : Nat) (pt : F1) (pd : F1) (h2 : Nat) (t2 : Nat) (d2 : Nat) (pn2 : Nat) (pt2 : F1) (pd2 : F1) : MC l D ty yX4_copyFrom cX4_copyFrom 2 none 1 [.ref h, .ref h2] [(h, scE pn t d), (t, arE ty 10 pt), (d, arE ty 10 pd), (h2, scE pn2 t2 d2), (t2, arE ty 10 pt2), (d2, arE ty 10 pd2)] none [(h, scE pn2 t d), (t, arE ty 10 (f_X4_copyFrom_t pt pt2)), (d, arE ty 10 (f_X4_copyFrom_d pd pd2)), (h2, scE pn2 t2 d2), (t2, arE ty 10 pt2), (d2, arE ty 10 pd2)] := by
  refine mc_v (by decide +kernel) (Nat.le_of_ble_eq_true rfl) ?_
  intro p e s m args below meth c A Q ls C hK hA X hret hl
  have hx := C.1
  have hb := C.2.1
  have hl : lv_has ls 2 [(0, .ref h), (1, .ref h2)] := hl
  have X : Wd D A s.heap [(h, scE pn t d), (t, arE ty 10 pt), (d, arE ty 10 pd), (h2, scE pn2 t2 d2), (t2, arE ty 10 pt2), (d2, arE ty 10 pd2)] s.heap [] := X
  refine lv_aload_n hx hb dX4_copyFrom_0 rfl (lv_at hl 1 rfl) ?_
  refine get_sc_0 C hK X 3 rfl fl_X4_9 dX4_copyFrom_1 ?_
  refine lv_iconst (v := 0) hx hb dX4_copyFrom_4 (by decide) ?_
  refine lv_aload_n hx hb dX4_copyFrom_5 rfl (lv_at hl 0 rfl) ?_
  refine get_sc_0 C hK X 0 rfl fl_X4_9 dX4_copyFrom_6 ?_
  refine lv_iconst (v := 0) hx hb dX4_copyFrom_9 (by decide) ?_
  refine lv_bipush (v := 10) hx hb dX4_copyFrom_10 (by decide) ?_
  refine s_copyN C hK X hl.1 wm_X4_20 4 1 0 0 10 rfl rfl rfl rfl rfl (by decide) (by decide) (by decide) (by decide) (Nat.le_of_ble_eq_true rfl) (Nat.le_of_ble_eq_true rfl) dX4_copyFrom_12 (fun H locs X => ?_)
  have X : Wd D A s.heap [(h, scE pn t d), (t, arE ty 10 (va_cpy pt2 pt 0 0 10)), (d, arE ty 10 pd), (h2, scE pn2 t2 d2), (t2, arE ty 10 pt2), (d2, arE ty 10 pd2)] H locs := X
  refine lv_aload_n hx hb dX4_copyFrom_15 rfl (lv_at hl 1 rfl) ?_
  refine get_sc_1 C hK X 3 rfl fl_X4_13 dX4_copyFrom_16 ?_
  refine lv_iconst (v := 0) hx hb dX4_copyFrom_19 (by decide) ?_
  refine lv_aload_n hx hb dX4_copyFrom_20 rfl (lv_at hl 0 rfl) ?_
  refine get_sc_1 C hK X 0 rfl fl_X4_13 dX4_copyFrom_21 ?_
  refine lv_iconst (v := 0) hx hb dX4_copyFrom_24 (by decide) ?_
  refine lv_bipush (v := 10) hx hb dX4_copyFrom_25 (by decide) ?_
  refine s_copyN C hK X hl.1 wm_X4_20 5 2 0 0 10 rfl rfl rfl rfl rfl (by decide) (by decide) (by decide) (by decide) (Nat.le_of_ble_eq_true rfl) (Nat.le_of_ble_eq_true rfl) dX4_copyFrom_27 (fun H locs X => ?_)
  have X : Wd D A s.heap [(h, scE pn t d), (t, arE ty 10 (va_cpy pt2 pt 0 0 10)), (d, arE ty 10 (va_cpy pd2 pd 0 0 10)), (h2, scE pn2 t2 d2), (t2, arE ty 10 pt2), (d2, arE ty 10 pd2)] H locs := X
  refine lv_aload_n hx hb dX4_copyFrom_30 rfl (lv_at hl 0 rfl) ?_
  refine lv_aload_n hx hb dX4_copyFrom_31 rfl (lv_at hl 1 rfl) ?_
  refine get_sc_2 C hK X 3 rfl fl_X4_16 dX4_copyFrom_32 ?_
  refine put_sc_2 C hK X 0 rfl pl_X4_16 rfl dX4_copyFrom_35 (fun H locs X => ?_)
  have X : Wd D A s.heap [(h, scE pn2 t d), (t, arE ty 10 (va_cpy pt2 pt 0 0 10)), (d, arE ty 10 (va_cpy pd2 pd 0 0 10)), (h2, scE pn2 t2 d2), (t2, arE ty 10 pt2), (d2, arE ty 10 pd2)] H locs := X
  have e_1_1 : (f_X4_copyFrom_t pt pt2) = (va_cpy pt2 pt 0 0 10) := by first | (rw [f_X4_copyFrom_t]; done) | (rw [f_X4_copyFrom_t]; rfl) | (simp only [f_X4_copyFrom_t]; done)
  have e_2_1 : (f_X4_copyFrom_d pd pd2) = (va_cpy pd2 pd 0 0 10) := by first | (rw [f_X4_copyFrom_d]; done) | (rw [f_X4_copyFrom_d]; rfl) | (simp only [f_X4_copyFrom_d]; done)
  exact hret _ _ _ _ _ dX4_copyFrom_38 X (by rw [e_1_1, e_2_1])
def f_X4_isFull (pn : Nat) : Int32 := (if (nI pn) < 10 then 0 else 1)
theorem isFull0 {pn : Nat} (h : pn < 10) : f_X4_isFull pn = 0 := by
  unfold f_X4_isFull
  exact if_pos (nI_lt (b := 10) h (by decide))
theorem pos_of_nI {a : Nat} (ha : a < 2 ^ 31) (c : 0 < nI a) : 0 < a := (nI_ltI (a := 0) (by decide) ha).mp c
theorem sb_m1s {a : Nat} (h : 0 < a) : nI a - 1 = nI (a - 1) := pk_sub (b := 1) h
set_option maxHeartbeats 4000000 in
set_option maxRecDepth 100000 in
theorem c_X4_isFull (l : Launch) (D : va_G) (ty : Nat → ClassId) (h : Nat) (t : Nat) (d : Nat) (pn : Nat) : MC l D ty yX4_isFull cX4_isFull 1 (some .boolean) 0 [.ref h] [(h, scE pn t d)] (some (.int (f_X4_isFull pn))) [(h, scE pn t d)] := by
  refine mc_z (by decide +kernel) (Nat.le_of_ble_eq_true rfl) (and_b (by unfold f_X4_isFull; (repeat' split) <;> first | exact isB0 | exact isB1)) ?_
  intro p e s m args below meth c A Q ls C hK hA X hret hl
  have hx := C.1
  have hb := C.2.1
  have hl : lv_has ls 1 [(0, .ref h)] := hl
  have X : Wd D A s.heap [(h, scE pn t d)] s.heap [] := X
  refine lv_aload_n hx hb dX4_isFull_0 rfl (lv_at hl 0 rfl) ?_
  refine get_sc_2 C hK X 0 rfl fl_X4_16 dX4_isFull_1 ?_
  refine lv_bipush (v := 10) hx hb dX4_isFull_4 (by decide) ?_
  refine lv_icmp_lt (tgt := 13) hx hb dX4_isFull_6 (by decide) (fun c0_0 => ?_) (fun c0_0 => ?_)
  · refine lv_iconst (v := 0) hx hb dX4_isFull_13 (by decide) ?_
    exact hret _ _ _ _ _ _ dX4_isFull_14 X rfl (by first | (rw [f_X4_isFull, if_pos c0_0]; done) | (rw [f_X4_isFull, if_pos c0_0]; rfl) | (simp only [f_X4_isFull, if_pos c0_0]; done))
  · refine lv_iconst (v := 1) hx hb dX4_isFull_9 (by decide) ?_
    refine lv_goto (tgt := 14) hx hb dX4_isFull_10 (by decide) ?_
    exact hret _ _ _ _ _ _ dX4_isFull_14 X rfl (by first | (rw [f_X4_isFull, if_neg c0_0]; done) | (rw [f_X4_isFull, if_neg c0_0]; rfl) | (simp only [f_X4_isFull, if_neg c0_0]; done))
set_option maxHeartbeats 4000000 in
set_option maxRecDepth 100000 in
theorem c_X4_entriesUntil (l : Launch) (D : va_G) (ty : Nat → ClassId) (h : Nat) (t : Nat) (d : Nat) (pn : Nat) (pt : F1) (pd : F1) (T : Int32) (hs : pnOK pn) : MC l D ty yX4_entriesUntil cX4_entriesUntil 3 (some .int) 0 [.ref h, .int T] [(h, scE pn t d), (t, arE ty 10 pt), (d, arE ty 10 pd)] (some (.int (nI (unt pn pt T)))) [(h, scE pn t d), (t, arE ty 10 pt), (d, arE ty 10 pd)] := by
  refine mc_i (by decide +kernel) (Nat.le_of_ble_eq_true rfl) ?_
  intro p e s m args below meth c A Q ls C hK hA X hret hl
  have hx := C.1
  have hb := C.2.1
  have hl : lv_has ls 3 [(0, .ref h), (1, .int T)] := hl
  have X : Wd D A s.heap [(h, scE pn t d), (t, arE ty 10 pt), (d, arE ty 10 pd)] s.heap [] := X
  have hp : pn ≤ 10 := hs
  refine lv_iconst (v := 0) hx hb dX4_entriesUntil_0 (by decide) ?_
  refine lv_istore_n (lv' := [(2, .int 0), (0, .ref h), (1, .int T)]) hx hb dX4_entriesUntil_1 rfl hl (by decide) rfl (fun ls hl => ?_)
  have K1 : ∀ (y1_0 : Int32) (ls : Array Slot) (H : Heap) (locs : List Loc), y1_0 = (nI (unt pn pt T)) → lv_has ls 3 [(2, .int y1_0), (0, .ref h), (1, .int T)] → Wd D A s.heap [(h, scE pn t d), (t, arE ty 10 pt), (d, arE ty 10 pd)] H locs → W p l e (rmD 0) s m args below meth c H locs 0 0 Q (F0 m 26 ls []) := by
    intro y1_0 ls H locs ey1_0 hl X
    subst ey1_0
    refine lv_iload_n hx hb dX4_entriesUntil_26 rfl (lv_at hl 0 rfl) ?_
    exact hret _ _ _ _ _ _ dX4_entriesUntil_27 X rfl rfl
  have L1 : ∀ (kf i : Nat) (y1_0 : Int32) (ls : Array Slot) (H : Heap) (locs : List Loc), 10 - i < kf → (i ≤ 10 ∧ scanB (untP pn pt T) (10 - i) i = unt pn pt T) → y1_0 = (nI i) → lv_has ls 3 [(2, .int y1_0), (0, .ref h), (1, .int T)] → Wd D A s.heap [(h, scE pn t d), (t, arE ty 10 pt), (d, arE ty 10 pd)] H locs → W p l e (rmD 0) s m args below meth c H locs 0 0 Q (F0 m 2 ls []) := by
    intro kf
    induction kf with
    | zero => intro i y1_0 ls H locs hk; exact absurd hk (Nat.not_lt_zero _)
    | succ kf ih1 =>
      intro i y1_0 ls H locs hk hI ey1_0 hl X
      subst ey1_0
      obtain ⟨hI1, hI2⟩ := hI
      refine lv_iload_n hx hb dX4_entriesUntil_2 rfl (lv_at hl 0 rfl) ?_
      refine lv_aload_n hx hb dX4_entriesUntil_3 rfl (lv_at hl 1 rfl) ?_
      refine get_sc_2 C hK X 0 rfl fl_X4_16 dX4_entriesUntil_4 ?_
      refine lv_icmp_ge (tgt := 26) hx hb dX4_entriesUntil_7 (by decide) (fun c0_0 => ?_) (fun c0_0 => ?_)
      · have hE : unt pn pt T = i := by rw [← hI2]; exact scan_stop (by simp [untP, Nat.not_lt.mpr ((nI_leI (a := pn) (b := i) (by omega) (by omega)).mp c0_0)])
        exact K1 (nI i) _ _ _ (by rw [hE]) (lv_sub hl [0, 1, 2] rfl) X
      · have h1 : i < pn := lt_of_nnIle (by omega) (by omega) c0_0
        refine lv_aload_n hx hb dX4_entriesUntil_10 rfl (lv_at hl 1 rfl) ?_
        refine get_sc_0 C hK X 0 rfl fl_X4_9 dX4_entriesUntil_11 ?_
        refine lv_iload_n hx hb dX4_entriesUntil_14 rfl (lv_at hl 0 rfl) ?_
        refine s_ialN C hK X 1 i rfl rfl (by omega) (by decide) dX4_entriesUntil_15 ?_
        refine lv_iload_n hx hb dX4_entriesUntil_16 rfl (lv_at hl 2 rfl) ?_
        refine lv_icmp_gt (tgt := 26) hx hb dX4_entriesUntil_17 (by decide) (fun c1_1 => ?_) (fun c1_1 => ?_)
        · have hE : unt pn pt T = i := by rw [← hI2]; exact scan_stop (by simp [untP, Int32.not_le.mpr c1_1])
          exact K1 (nI i) _ _ _ (by rw [hE]) (lv_sub hl [0, 1, 2] rfl) X
        · refine lv_iinc (v := ((nI i) + 1)) (lv' := [(2, .int ((nI i) + 1)), (0, .ref h), (1, .int T)]) hx hb dX4_entriesUntil_20 hl (k := 0) rfl rfl (by decide) rfl (fun ls hl => ?_)
          refine lv_goto (tgt := 2) hx hb dX4_entriesUntil_23 (by decide) ?_
          have hP : untP pn pt T i = true := by simp [untP, h1, Int32.not_lt.mp c1_1]
          exact ih1 (i + 1) ((nI i) + 1) _ _ _ (by omega) ⟨by omega, by rw [← hI2, ← scan_go (k := 10 - i) (by omega) hP, show 10 - (i + 1) = 10 - i - 1 by omega]⟩ (nI_1 i) (lv_sub hl [0, 1, 2] rfl) X
  exact L1 (10 + 1) 0 0 _ _ _ (by omega) ⟨by omega, rfl⟩ rfl (lv_sub hl [0, 1, 2] rfl) X
def f_X4_shift_t (pt : F1) (fr : Nat) (to : Nat) (ln : Nat) : F1 := (va_cpy pt pt fr to ln)
def f_X4_shift_d (pd : F1) (fr : Nat) (to : Nat) (ln : Nat) : F1 := (va_cpy pd pd fr to ln)
set_option maxHeartbeats 4000000 in
set_option maxRecDepth 100000 in
theorem c_X4_shift (l : Launch) (D : va_G) (ty : Nat → ClassId) (h : Nat) (t : Nat) (d : Nat) (pn : Nat) (pt : F1) (pd : F1) (fr : Nat) (to : Nat) (ln : Nat) (h1 : fr + ln ≤ 10) (h2 : to + ln ≤ 10) : MC l D ty yX4_shift cX4_shift 4 none 1 [.ref h, .int (nI fr), .int (nI to), .int (nI ln)] [(h, scE pn t d), (t, arE ty 10 pt), (d, arE ty 10 pd)] none [(h, scE pn t d), (t, arE ty 10 (f_X4_shift_t pt fr to ln)), (d, arE ty 10 (f_X4_shift_d pd fr to ln))] := by
  refine mc_v (by decide +kernel) (Nat.le_of_ble_eq_true rfl) ?_
  intro p e s m args below meth c A Q ls C hK hA X hret hl
  have hx := C.1
  have hb := C.2.1
  have hl : lv_has ls 4 [(0, .ref h), (1, .int (nI fr)), (2, .int (nI to)), (3, .int (nI ln))] := hl
  have X : Wd D A s.heap [(h, scE pn t d), (t, arE ty 10 pt), (d, arE ty 10 pd)] s.heap [] := X
  refine lv_aload_n hx hb dX4_shift_0 rfl (lv_at hl 0 rfl) ?_
  refine get_sc_0 C hK X 0 rfl fl_X4_9 dX4_shift_1 ?_
  refine lv_iload_n hx hb dX4_shift_4 rfl (lv_at hl 1 rfl) ?_
  refine lv_aload_n hx hb dX4_shift_5 rfl (lv_at hl 0 rfl) ?_
  refine get_sc_0 C hK X 0 rfl fl_X4_9 dX4_shift_6 ?_
  refine lv_iload_n hx hb dX4_shift_9 rfl (lv_at hl 2 rfl) ?_
  refine lv_iload_n hx hb dX4_shift_10 rfl (lv_at hl 3 rfl) ?_
  refine s_copyN C hK X hl.1 wm_X4_20 1 1 fr to ln rfl rfl rfl rfl rfl h1 h2 (by decide) (by decide) (Nat.le_of_ble_eq_true rfl) (Nat.le_of_ble_eq_true rfl) dX4_shift_11 (fun H locs X => ?_)
  have X : Wd D A s.heap [(h, scE pn t d), (t, arE ty 10 (va_cpy pt pt fr to ln)), (d, arE ty 10 pd)] H locs := X
  refine lv_aload_n hx hb dX4_shift_14 rfl (lv_at hl 0 rfl) ?_
  refine get_sc_1 C hK X 0 rfl fl_X4_13 dX4_shift_15 ?_
  refine lv_iload_n hx hb dX4_shift_18 rfl (lv_at hl 1 rfl) ?_
  refine lv_aload_n hx hb dX4_shift_19 rfl (lv_at hl 0 rfl) ?_
  refine get_sc_1 C hK X 0 rfl fl_X4_13 dX4_shift_20 ?_
  refine lv_iload_n hx hb dX4_shift_23 rfl (lv_at hl 2 rfl) ?_
  refine lv_iload_n hx hb dX4_shift_24 rfl (lv_at hl 3 rfl) ?_
  refine s_copyN C hK X hl.1 wm_X4_20 2 2 fr to ln rfl rfl rfl rfl rfl h1 h2 (by decide) (by decide) (Nat.le_of_ble_eq_true rfl) (Nat.le_of_ble_eq_true rfl) dX4_shift_25 (fun H locs X => ?_)
  have X : Wd D A s.heap [(h, scE pn t d), (t, arE ty 10 (va_cpy pt pt fr to ln)), (d, arE ty 10 (va_cpy pd pd fr to ln))] H locs := X
  have e_1_1 : (f_X4_shift_t pt fr to ln) = (va_cpy pt pt fr to ln) := by first | (rw [f_X4_shift_t]; done) | (rw [f_X4_shift_t]; rfl) | (simp only [f_X4_shift_t]; done)
  have e_2_1 : (f_X4_shift_d pd fr to ln) = (va_cpy pd pd fr to ln) := by first | (rw [f_X4_shift_d]; done) | (rw [f_X4_shift_d]; rfl) | (simp only [f_X4_shift_d]; done)
  exact hret _ _ _ _ _ dX4_shift_28 X (by rw [e_1_1, e_2_1])
def f_X4_put_h_pn (pn : Nat) : Nat := (pn + 1)
def f_X4_put_t (pn : Nat) (pt : F1) (T : Int32) : F1 := (upd (f_X4_shift_t pt (unt pn pt T) (unt pn pt T + 1) (pn - unt pn pt T)) (unt pn pt T) T)
def f_X4_put_d (pn : Nat) (pt : F1) (pd : F1) (T : Int32) (dm : Int32) : F1 := (upd (f_X4_shift_d pd (unt pn pt T) (unt pn pt T + 1) (pn - unt pn pt T)) (unt pn pt T) dm)
theorem ok_X4_put_h (pn : Nat) (hp : pn < 10) : pnOK (f_X4_put_h_pn pn) := hp
set_option maxHeartbeats 4000000 in
set_option maxRecDepth 100000 in
theorem c_X4_put (l : Launch) (D : va_G) (ty : Nat → ClassId) (h : Nat) (t : Nat) (d : Nat) (pn : Nat) (pt : F1) (pd : F1) (T : Int32) (dm : Int32) (hp : pn < 10) : MC l D ty yX4_put cX4_put 4 none 2 [.ref h, .int T, .int dm] [(h, scE pn t d), (t, arE ty 10 pt), (d, arE ty 10 pd)] none [(h, scE (f_X4_put_h_pn pn) t d), (t, arE ty 10 (f_X4_put_t pn pt T)), (d, arE ty 10 (f_X4_put_d pn pt pd T dm))] := by
  refine mc_v (by decide +kernel) (Nat.le_of_ble_eq_true rfl) ?_
  intro p e s m args below meth c A Q ls C hK hA X hret hl
  have hx := C.1
  have hb := C.2.1
  have hl : lv_has ls 4 [(0, .ref h), (1, .int T), (2, .int dm)] := hl
  have X : Wd D A s.heap [(h, scE pn t d), (t, arE ty 10 pt), (d, arE ty 10 pd)] s.heap [] := X
  have hu : unt pn pt T ≤ pn := unt_le (by omega)
  refine lv_aload_n hx hb dX4_put_0 rfl (lv_at hl 0 rfl) ?_
  refine s_cV0i C hK hA X (c_X4_isFull l D ty h t d pn) [0] (pk_c rfl pk_n) rfl ml_X4_isFull wm_X4_26 (q0 := 0) rfl rfl rfl ⟨Nat.le_of_ble_eq_true rfl, Nat.le_of_ble_eq_true rfl⟩ ⟨Nat.zero_le _, Nat.zero_le _⟩ hl.1 rfl (Nat.le_of_ble_eq_true rfl) dX4_put_1 (fun H locs X => ?_)
  refine lv_if_eq (tgt := 8) hx hb dX4_put_4 (by decide) (fun _ => ?_) (fun c0 => absurd (isFull0 hp) c0)
  refine lv_aload_n hx hb dX4_put_8 rfl (lv_at hl 0 rfl) ?_
  refine lv_iload_n hx hb dX4_put_9 rfl (lv_at hl 1 rfl) ?_
  refine s_cV0i C hK hA X (c_X4_entriesUntil l D ty h t d pn pt pd T (Nat.le_of_lt hp)) [0, 1, 2] (pk_c rfl (pk_c rfl (pk_c rfl pk_n))) rfl ml_X4_entriesUntil wm_X4_30 (q0 := 0) rfl rfl rfl ⟨Nat.le_of_ble_eq_true rfl, Nat.le_of_ble_eq_true rfl⟩ ⟨Nat.zero_le _, Nat.zero_le _⟩ hl.1 rfl (Nat.le_of_ble_eq_true rfl) dX4_put_10 (fun H locs X => ?_)
  refine lv_istore_n (lv' := [(3, .int (nI (unt pn pt T))), (0, .ref h), (1, .int T), (2, .int dm)]) hx hb dX4_put_13 rfl hl (by decide) rfl (fun ls hl => ?_)
  refine lv_aload_n hx hb dX4_put_14 rfl (lv_at hl 1 rfl) ?_
  refine lv_iload_n hx hb dX4_put_15 rfl (lv_at hl 0 rfl) ?_
  refine lv_iload_n hx hb dX4_put_16 rfl (lv_at hl 0 rfl) ?_
  refine lv_iconst (v := 1) hx hb dX4_put_17 (by decide) ?_
  refine lv_iadd hx hb dX4_put_18 ?_
  refine s_eqi (y := nI (unt pn pt T + 1)) (nI_1 _) ?_
  refine lv_aload_n hx hb dX4_put_19 rfl (lv_at hl 1 rfl) ?_
  refine get_sc_2 C hK X 0 rfl fl_X4_16 dX4_put_20 ?_
  refine lv_iload_n hx hb dX4_put_23 rfl (lv_at hl 0 rfl) ?_
  refine lv_isub hx hb dX4_put_24 ?_
  refine s_eqi (y := nI (pn - unt pn pt T)) (pk_sub hu) ?_
  refine s_cVv (ws' := [(h, scE pn t d), (t, arE ty 10 (f_X4_shift_t pt (unt pn pt T) (unt pn pt T + 1) (pn - unt pn pt T))), (d, arE ty 10 (f_X4_shift_d pd (unt pn pt T) (unt pn pt T + 1) (pn - unt pn pt T)))]) C hK hA X (c_X4_shift l D ty h t d pn pt pd (unt pn pt T) (unt pn pt T + 1) (pn - unt pn pt T) (by omega) (by omega)) [0, 1, 2] (pk_c rfl (pk_c rfl (pk_c rfl pk_n))) rfl (pk_c rfl (pk_c rfl (pk_c rfl pk_n))) (em_t (em_t (em_t em_n))) rfl ml_X4_shift wm_X4_34 (q0 := 0) rfl rfl rfl ⟨Nat.le_of_ble_eq_true rfl, Nat.le_of_ble_eq_true rfl⟩ ⟨Nat.zero_le _, Nat.zero_le _⟩ hl.1 rfl (Nat.le_of_ble_eq_true rfl) dX4_put_25 (fun H locs X => ?_)
  refine lv_aload_n hx hb dX4_put_28 rfl (lv_at hl 1 rfl) ?_
  refine get_sc_0 C hK X 0 rfl fl_X4_9 dX4_put_29 ?_
  refine lv_iload_n hx hb dX4_put_32 rfl (lv_at hl 0 rfl) ?_
  refine lv_iload_n hx hb dX4_put_33 rfl (lv_at hl 2 rfl) ?_
  refine s_iasN C hK X 1 (unt pn pt T) rfl rfl (by omega) (by decide) dX4_put_34 (fun H locs X => ?_)
  have X : Wd D A s.heap [(h, scE pn t d), (t, arE ty 10 (upd (f_X4_shift_t pt (unt pn pt T) (unt pn pt T + 1) (pn - unt pn pt T)) (unt pn pt T) T)), (d, arE ty 10 (f_X4_shift_d pd (unt pn pt T) (unt pn pt T + 1) (pn - unt pn pt T)))] H locs := X
  refine lv_aload_n hx hb dX4_put_35 rfl (lv_at hl 1 rfl) ?_
  refine get_sc_1 C hK X 0 rfl fl_X4_13 dX4_put_36 ?_
  refine lv_iload_n hx hb dX4_put_39 rfl (lv_at hl 0 rfl) ?_
  refine lv_iload_n hx hb dX4_put_40 rfl (lv_at hl 3 rfl) ?_
  refine s_iasN C hK X 2 (unt pn pt T) rfl rfl (by omega) (by decide) dX4_put_41 (fun H locs X => ?_)
  have X : Wd D A s.heap [(h, scE pn t d), (t, arE ty 10 (upd (f_X4_shift_t pt (unt pn pt T) (unt pn pt T + 1) (pn - unt pn pt T)) (unt pn pt T) T)), (d, arE ty 10 (upd (f_X4_shift_d pd (unt pn pt T) (unt pn pt T + 1) (pn - unt pn pt T)) (unt pn pt T) dm))] H locs := X
  refine lv_aload_n hx hb dX4_put_42 rfl (lv_at hl 1 rfl) ?_
  refine lv_dup hx hb dX4_put_43 rfl ?_
  refine get_sc_2 C hK X 0 rfl fl_X4_16 dX4_put_44 ?_
  refine lv_iconst (v := 1) hx hb dX4_put_47 (by decide) ?_
  refine lv_iadd hx hb dX4_put_48 ?_
  refine s_eqi (y := nI (pn + 1)) (nI_1 pn) ?_
  refine put_sc_2 C hK X 0 rfl pl_X4_16 rfl dX4_put_49 (fun H locs X => ?_)
  have X : Wd D A s.heap [(h, scE (pn + 1) t d), (t, arE ty 10 (upd (f_X4_shift_t pt (unt pn pt T) (unt pn pt T + 1) (pn - unt pn pt T)) (unt pn pt T) T)), (d, arE ty 10 (upd (f_X4_shift_d pd (unt pn pt T) (unt pn pt T + 1) (pn - unt pn pt T)) (unt pn pt T) dm))] H locs := X
  have e_0_0 : (f_X4_put_h_pn pn) = (pn + 1) := by first | (rw [f_X4_put_h_pn]; done) | (rw [f_X4_put_h_pn]; rfl) | (simp only [f_X4_put_h_pn]; done)
  have e_1_1 : (f_X4_put_t pn pt T) = (upd (f_X4_shift_t pt (unt pn pt T) (unt pn pt T + 1) (pn - unt pn pt T)) (unt pn pt T) T) := by first | (rw [f_X4_put_t]; done) | (rw [f_X4_put_t]; rfl) | (simp only [f_X4_put_t]; done)
  have e_2_1 : (f_X4_put_d pn pt pd T dm) = (upd (f_X4_shift_d pd (unt pn pt T) (unt pn pt T + 1) (pn - unt pn pt T)) (unt pn pt T) dm) := by first | (rw [f_X4_put_d]; done) | (rw [f_X4_put_d]; rfl) | (simp only [f_X4_put_d]; done)
  exact hret _ _ _ _ _ dX4_put_52 X (by rw [e_0_0, e_1_1, e_2_1])
def f_X4_takeDemand (pn : Nat) (pt : F1) (pd : F1) (T : Int32) (dm : Int32) : Int32 := (if 0 < (nI (unt pn pt T)) then (pd (unt pn pt T - 1)) else dm)
def f_X4_takeDemand_h_pn (pn : Nat) (pt : F1) (T : Int32) : Nat := (if 0 < (nI (unt pn pt T)) then (pn - unt pn pt T) else pn)
def f_X4_takeDemand_t (pn : Nat) (pt : F1) (T : Int32) : F1 := (if 0 < (nI (unt pn pt T)) then (f_X4_shift_t pt (unt pn pt T) 0 (pn - unt pn pt T)) else pt)
def f_X4_takeDemand_d (pn : Nat) (pt : F1) (pd : F1) (T : Int32) : F1 := (if 0 < (nI (unt pn pt T)) then (f_X4_shift_d pd (unt pn pt T) 0 (pn - unt pn pt T)) else pd)
theorem ok_X4_takeDemand_h (pn : Nat) (pt : F1) (T : Int32) (hs : pnOK pn) : pnOK (f_X4_takeDemand_h_pn pn pt T) := by unfold f_X4_takeDemand_h_pn pnOK; have : pn ≤ 10 := hs; split <;> omega
set_option maxHeartbeats 4000000 in
set_option maxRecDepth 100000 in
theorem c_X4_takeDemand (l : Launch) (D : va_G) (ty : Nat → ClassId) (h : Nat) (t : Nat) (d : Nat) (pn : Nat) (pt : F1) (pd : F1) (T : Int32) (dm : Int32) (hs : pnOK pn) : MC l D ty yX4_takeDemand cX4_takeDemand 5 (some .int) 2 [.ref h, .int T, .int dm] [(h, scE pn t d), (t, arE ty 10 pt), (d, arE ty 10 pd)] (some (.int (f_X4_takeDemand pn pt pd T dm))) [(h, scE (f_X4_takeDemand_h_pn pn pt T) t d), (t, arE ty 10 (f_X4_takeDemand_t pn pt T)), (d, arE ty 10 (f_X4_takeDemand_d pn pt pd T))] := by
  refine mc_i (by decide +kernel) (Nat.le_of_ble_eq_true rfl) ?_
  intro p e s m args below meth c A Q ls C hK hA X hret hl
  have hx := C.1
  have hb := C.2.1
  have hl : lv_has ls 5 [(0, .ref h), (1, .int T), (2, .int dm)] := hl
  have X : Wd D A s.heap [(h, scE pn t d), (t, arE ty 10 pt), (d, arE ty 10 pd)] s.heap [] := X
  have hp : pn ≤ 10 := hs
  have hu : unt pn pt T ≤ pn := unt_le hp
  refine lv_aload_n hx hb dX4_takeDemand_0 rfl (lv_at hl 0 rfl) ?_
  refine lv_iload_n hx hb dX4_takeDemand_1 rfl (lv_at hl 1 rfl) ?_
  refine s_cV0i C hK hA X (c_X4_entriesUntil l D ty h t d pn pt pd T hs) [0, 1, 2] (pk_c rfl (pk_c rfl (pk_c rfl pk_n))) rfl ml_X4_entriesUntil wm_X4_30 (q0 := 0) rfl rfl rfl ⟨Nat.le_of_ble_eq_true rfl, Nat.le_of_ble_eq_true rfl⟩ ⟨Nat.zero_le _, Nat.zero_le _⟩ hl.1 rfl (Nat.le_of_ble_eq_true rfl) dX4_takeDemand_2 (fun H locs X => ?_)
  refine lv_istore_n (lv' := [(3, .int (nI (unt pn pt T))), (0, .ref h), (1, .int T), (2, .int dm)]) hx hb dX4_takeDemand_5 rfl hl (by decide) rfl (fun ls hl => ?_)
  refine lv_iload_n hx hb dX4_takeDemand_6 rfl (lv_at hl 0 rfl) ?_
  refine lv_if_gt (tgt := 12) hx hb dX4_takeDemand_7 (by decide) (fun c0_0 => ?_) (fun c0_0 => ?_)
  · have h0 : 0 < unt pn pt T := pos_of_nI (by omega) c0_0
    refine lv_aload_n hx hb dX4_takeDemand_12 rfl (lv_at hl 1 rfl) ?_
    refine get_sc_1 C hK X 0 rfl fl_X4_13 dX4_takeDemand_13 ?_
    refine lv_iload_n hx hb dX4_takeDemand_16 rfl (lv_at hl 0 rfl) ?_
    refine lv_iconst (v := 1) hx hb dX4_takeDemand_17 (by decide) ?_
    refine lv_isub hx hb dX4_takeDemand_18 ?_
    refine s_eqi (y := nI (unt pn pt T - 1)) (sb_m1s h0) ?_
    refine s_ialN C hK X 2 (unt pn pt T - 1) rfl rfl (by omega) (by decide) dX4_takeDemand_19 ?_
    refine lv_istore (lv' := [(4, .int (pd (unt pn pt T - 1))), (3, .int (nI (unt pn pt T))), (0, .ref h), (1, .int T), (2, .int dm)]) hx hb dX4_takeDemand_20 hl (by decide) rfl (fun ls hl => ?_)
    refine lv_aload_n hx hb dX4_takeDemand_22 rfl (lv_at hl 2 rfl) ?_
    refine lv_iload_n hx hb dX4_takeDemand_23 rfl (lv_at hl 1 rfl) ?_
    refine lv_iconst (v := 0) hx hb dX4_takeDemand_24 (by decide) ?_
    refine lv_aload_n hx hb dX4_takeDemand_25 rfl (lv_at hl 2 rfl) ?_
    refine get_sc_2 C hK X 0 rfl fl_X4_16 dX4_takeDemand_26 ?_
    refine lv_iload_n hx hb dX4_takeDemand_29 rfl (lv_at hl 1 rfl) ?_
    refine lv_isub hx hb dX4_takeDemand_30 ?_
    refine s_eqi (y := nI (pn - unt pn pt T)) (pk_sub hu) ?_
    refine s_cVv (ws' := [(h, scE pn t d), (t, arE ty 10 (f_X4_shift_t pt (unt pn pt T) 0 (pn - unt pn pt T))), (d, arE ty 10 (f_X4_shift_d pd (unt pn pt T) 0 (pn - unt pn pt T)))]) C hK hA X (c_X4_shift l D ty h t d pn pt pd (unt pn pt T) 0 (pn - unt pn pt T) (by omega) (by omega)) [0, 1, 2] (pk_c rfl (pk_c rfl (pk_c rfl pk_n))) rfl (pk_c rfl (pk_c rfl (pk_c rfl pk_n))) (em_t (em_t (em_t em_n))) rfl ml_X4_shift wm_X4_34 (q0 := 0) rfl rfl rfl ⟨Nat.le_of_ble_eq_true rfl, Nat.le_of_ble_eq_true rfl⟩ ⟨Nat.zero_le _, Nat.zero_le _⟩ hl.1 rfl (Nat.le_of_ble_eq_true rfl) dX4_takeDemand_31 (fun H locs X => ?_)
    refine lv_aload_n hx hb dX4_takeDemand_34 rfl (lv_at hl 2 rfl) ?_
    refine lv_dup hx hb dX4_takeDemand_35 rfl ?_
    refine get_sc_2 C hK X 0 rfl fl_X4_16 dX4_takeDemand_36 ?_
    refine lv_iload_n hx hb dX4_takeDemand_39 rfl (lv_at hl 1 rfl) ?_
    refine lv_isub hx hb dX4_takeDemand_40 ?_
    refine s_eqi (y := nI (pn - unt pn pt T)) (pk_sub hu) ?_
    refine put_sc_2 C hK X 0 rfl pl_X4_16 rfl dX4_takeDemand_41 (fun H locs X => ?_)
    have X : Wd D A s.heap [(h, scE (pn - unt pn pt T) t d), (t, arE ty 10 (f_X4_shift_t pt (unt pn pt T) 0 (pn - unt pn pt T))), (d, arE ty 10 (f_X4_shift_d pd (unt pn pt T) 0 (pn - unt pn pt T)))] H locs := X
    refine lv_iload hx hb dX4_takeDemand_44 (lv_at hl 0 rfl) ?_
    have e_0_0 : (f_X4_takeDemand_h_pn pn pt T) = (pn - unt pn pt T) := by first | (rw [f_X4_takeDemand_h_pn, if_pos c0_0]; done) | (rw [f_X4_takeDemand_h_pn, if_pos c0_0]; rfl) | (simp only [f_X4_takeDemand_h_pn, if_pos c0_0]; done)
    have e_1_1 : (f_X4_takeDemand_t pn pt T) = (f_X4_shift_t pt (unt pn pt T) 0 (pn - unt pn pt T)) := by first | (rw [f_X4_takeDemand_t, if_pos c0_0]; done) | (rw [f_X4_takeDemand_t, if_pos c0_0]; rfl) | (simp only [f_X4_takeDemand_t, if_pos c0_0]; done)
    have e_2_1 : (f_X4_takeDemand_d pn pt pd T) = (f_X4_shift_d pd (unt pn pt T) 0 (pn - unt pn pt T)) := by first | (rw [f_X4_takeDemand_d, if_pos c0_0]; done) | (rw [f_X4_takeDemand_d, if_pos c0_0]; rfl) | (simp only [f_X4_takeDemand_d, if_pos c0_0]; done)
    exact hret _ _ _ _ _ _ dX4_takeDemand_46 X (by rw [e_0_0, e_1_1, e_2_1]) (by first | (rw [f_X4_takeDemand, if_pos c0_0]; done) | (rw [f_X4_takeDemand, if_pos c0_0]; rfl) | (simp only [f_X4_takeDemand, if_pos c0_0]; done))
  · refine lv_iload_n hx hb dX4_takeDemand_10 rfl (lv_at hl 3 rfl) ?_
    have e_0_0 : (f_X4_takeDemand_h_pn pn pt T) = pn := by first | (rw [f_X4_takeDemand_h_pn, if_neg c0_0]; done) | (rw [f_X4_takeDemand_h_pn, if_neg c0_0]; rfl) | (simp only [f_X4_takeDemand_h_pn, if_neg c0_0]; done)
    have e_1_1 : (f_X4_takeDemand_t pn pt T) = pt := by first | (rw [f_X4_takeDemand_t, if_neg c0_0]; done) | (rw [f_X4_takeDemand_t, if_neg c0_0]; rfl) | (simp only [f_X4_takeDemand_t, if_neg c0_0]; done)
    have e_2_1 : (f_X4_takeDemand_d pn pt pd T) = pd := by first | (rw [f_X4_takeDemand_d, if_neg c0_0]; done) | (rw [f_X4_takeDemand_d, if_neg c0_0]; rfl) | (simp only [f_X4_takeDemand_d, if_neg c0_0]; done)
    exact hret _ _ _ _ _ _ dX4_takeDemand_11 X (by rw [e_0_0, e_1_1, e_2_1]) (by first | (rw [f_X4_takeDemand, if_neg c0_0]; done) | (rw [f_X4_takeDemand, if_neg c0_0]; rfl) | (simp only [f_X4_takeDemand, if_neg c0_0]; done))
def mixSc (pt pd : F1) (h : Int64) : Nat → Int64
  | 0 => h
  | i + 1 => f_X6_mix (f_X6_mix (mixSc pt pd h i) (pt i)) (pd i)
def f_X4_mixInto (pn : Nat) (pt : F1) (pd : F1) (hh : Int64) : Int64 := (mixSc pt pd (f_X6_mix hh (nI pn)) pn)
set_option maxHeartbeats 4000000 in
set_option maxRecDepth 100000 in
theorem c_X4_mixInto (l : Launch) (D : va_G) (ty : Nat → ClassId) (h : Nat) (t : Nat) (d : Nat) (pn : Nat) (pt : F1) (pd : F1) (hh : Int64) (hs : pnOK pn) : MC l D ty yX4_mixInto cX4_mixInto 6 (some .long) 1 [.ref h, .long hh] [(h, scE pn t d), (t, arE ty 10 pt), (d, arE ty 10 pd)] (some (.long (f_X4_mixInto pn pt pd hh))) [(h, scE pn t d), (t, arE ty 10 pt), (d, arE ty 10 pd)] := by
  refine mc_l (by decide +kernel) (Nat.le_of_ble_eq_true rfl) ?_
  intro p e s m args below meth c A Q ls C hK hA X hret hl
  have hx := C.1
  have hb := C.2.1
  have hl : lv_has ls 6 [(0, .ref h), (1, .long hh)] := hl
  have X : Wd D A s.heap [(h, scE pn t d), (t, arE ty 10 pt), (d, arE ty 10 pd)] s.heap [] := X
  have hp : pn ≤ 10 := hs
  refine lv_lload_n hx hb dX4_mixInto_0 rfl (lv_at hl 1 rfl) ?_
  refine lv_aload_n hx hb dX4_mixInto_1 rfl (lv_at hl 0 rfl) ?_
  refine get_sc_2 C hK X 0 rfl fl_X4_16 dX4_mixInto_2 ?_
  refine s_cN0l C hK hA X (c_X6_mix l D ty hh (nI pn)) [] pk_n rfl sl_X6_mix nw_X4_38 ⟨Nat.le_of_ble_eq_true rfl, Nat.le_of_ble_eq_true rfl⟩ ⟨Nat.zero_le _, Nat.zero_le _⟩ hl.1 rfl (Nat.le_of_ble_eq_true rfl) dX4_mixInto_5 (fun H locs X => ?_)
  refine lv_lstore_n (lv' := [(3, .long (f_X6_mix hh (nI pn))), (0, .ref h), (1, .long hh)]) hx hb dX4_mixInto_8 rfl hl (by decide) rfl (fun ls hl => ?_)
  refine lv_iconst (v := 0) hx hb dX4_mixInto_9 (by decide) ?_
  refine lv_istore (lv' := [(5, .int 0), (3, .long (f_X6_mix hh (nI pn))), (0, .ref h), (1, .long hh)]) hx hb dX4_mixInto_10 hl (by decide) rfl (fun ls hl => ?_)
  have K1 : ∀ (y1_0 : Int32) (y1_1 : Int64) (ls : Array Slot) (H : Heap) (locs : List Loc), y1_0 = (nI pn) → y1_1 = (mixSc pt pd (f_X6_mix hh (nI pn)) pn) → lv_has ls 6 [(5, .int y1_0), (3, .long y1_1), (0, .ref h), (1, .long hh)] → Wd D A s.heap [(h, scE pn t d), (t, arE ty 10 pt), (d, arE ty 10 pd)] H locs → W p l e (rmD 1) s m args below meth c H locs 0 0 Q (F0 m 49 ls []) := by
    intro y1_0 y1_1 ls H locs ey1_0 ey1_1 hl X
    subst ey1_0; subst ey1_1
    refine lv_lload_n hx hb dX4_mixInto_49 rfl (lv_at hl 1 rfl) ?_
    exact hret _ _ _ _ _ _ dX4_mixInto_50 X rfl (by first | (rw [f_X4_mixInto]; done) | (rw [f_X4_mixInto]; rfl) | (simp only [f_X4_mixInto]; done))
  have L1 : ∀ (kf i : Nat) (y1_0 : Int32) (y1_1 : Int64) (ls : Array Slot) (H : Heap) (locs : List Loc), pn - i < kf → (i ≤ pn) → y1_0 = (nI i) → y1_1 = (mixSc pt pd (f_X6_mix hh (nI pn)) i) → lv_has ls 6 [(5, .int y1_0), (3, .long y1_1), (0, .ref h), (1, .long hh)] → Wd D A s.heap [(h, scE pn t d), (t, arE ty 10 pt), (d, arE ty 10 pd)] H locs → W p l e (rmD 1) s m args below meth c H locs 0 0 Q (F0 m 12 ls []) := by
    intro kf
    induction kf with
    | zero => intro i y1_0 y1_1 ls H locs hk; exact absurd hk (Nat.not_lt_zero _)
    | succ kf ih1 =>
      intro i y1_0 y1_1 ls H locs hk hI ey1_0 ey1_1 hl X
      subst ey1_0; subst ey1_1
      refine lv_iload hx hb dX4_mixInto_12 (lv_at hl 0 rfl) ?_
      refine lv_aload_n hx hb dX4_mixInto_14 rfl (lv_at hl 2 rfl) ?_
      refine get_sc_2 C hK X 0 rfl fl_X4_16 dX4_mixInto_15 ?_
      refine lv_icmp_ge (tgt := 49) hx hb dX4_mixInto_18 (by decide) (fun c0_0 => ?_) (fun c0_0 => ?_)
      · have hE : i = pn := eq_of_nIle (by omega) (by omega) hI c0_0
        exact K1 (nI i) (mixSc pt pd (f_X6_mix hh (nI pn)) i) _ _ _ (by rw [hE]) (by rw [hE]) (lv_sub hl [0, 1, 2, 3] rfl) X
      · have h1 : i < pn := lt_of_nnIle (by omega) (by omega) c0_0
        refine lv_lload_n hx hb dX4_mixInto_21 rfl (lv_at hl 1 rfl) ?_
        refine lv_aload_n hx hb dX4_mixInto_22 rfl (lv_at hl 2 rfl) ?_
        refine get_sc_0 C hK X 0 rfl fl_X4_9 dX4_mixInto_23 ?_
        refine lv_iload hx hb dX4_mixInto_26 (lv_at hl 0 rfl) ?_
        refine s_ialN C hK X 1 i rfl rfl (by omega) (by decide) dX4_mixInto_28 ?_
        refine s_cN0l C hK hA X (c_X6_mix l D ty (mixSc pt pd (f_X6_mix hh (nI pn)) i) (pt i)) [] pk_n rfl sl_X6_mix nw_X4_38 ⟨Nat.le_of_ble_eq_true rfl, Nat.le_of_ble_eq_true rfl⟩ ⟨Nat.zero_le _, Nat.zero_le _⟩ hl.1 rfl (Nat.le_of_ble_eq_true rfl) dX4_mixInto_29 (fun H locs X => ?_)
        refine lv_aload_n hx hb dX4_mixInto_32 rfl (lv_at hl 2 rfl) ?_
        refine get_sc_1 C hK X 0 rfl fl_X4_13 dX4_mixInto_33 ?_
        refine lv_iload hx hb dX4_mixInto_36 (lv_at hl 0 rfl) ?_
        refine s_ialN C hK X 2 i rfl rfl (by omega) (by decide) dX4_mixInto_38 ?_
        refine s_cN0l C hK hA X (c_X6_mix l D ty (f_X6_mix (mixSc pt pd (f_X6_mix hh (nI pn)) i) (pt i)) (pd i)) [] pk_n rfl sl_X6_mix nw_X4_38 ⟨Nat.le_of_ble_eq_true rfl, Nat.le_of_ble_eq_true rfl⟩ ⟨Nat.zero_le _, Nat.zero_le _⟩ hl.1 rfl (Nat.le_of_ble_eq_true rfl) dX4_mixInto_39 (fun H locs X => ?_)
        refine lv_lstore_n (lv' := [(3, .long (f_X6_mix (f_X6_mix (mixSc pt pd (f_X6_mix hh (nI pn)) i) (pt i)) (pd i))), (5, .int (nI i)), (0, .ref h), (1, .long hh)]) hx hb dX4_mixInto_42 rfl hl (by decide) rfl (fun ls hl => ?_)
        refine lv_iinc (v := ((nI i) + 1)) (lv' := [(5, .int ((nI i) + 1)), (3, .long (f_X6_mix (f_X6_mix (mixSc pt pd (f_X6_mix hh (nI pn)) i) (pt i)) (pd i))), (0, .ref h), (1, .long hh)]) hx hb dX4_mixInto_43 hl (k := 1) rfl rfl (by decide) rfl (fun ls hl => ?_)
        refine lv_goto (tgt := 12) hx hb dX4_mixInto_46 (by decide) ?_
        exact ih1 (i + 1) ((nI i) + 1) (f_X6_mix (f_X6_mix (mixSc pt pd (f_X6_mix hh (nI pn)) i) (pt i)) (pd i)) _ _ _ (by omega) (by omega) (nI_1 i) rfl (lv_sub hl [0, 1, 2, 3] rfl) X
  exact L1 (pn + 1) 0 0 (f_X6_mix hh (nI pn)) _ _ _ (by omega) (Nat.zero_le _) rfl rfl (lv_sub hl [0, 1, 2, 3] rfl) X
def prsP (cn : Nat) (rs : F1) (X : Int32) : Nat → Bool := fun i => decide (i + 1 < cn) && decide (rs (i + 1) ≤ X)
def prs (cn : Nat) (rs : F1) (X : Int32) : Nat := scanB (prsP cn rs X) 12 0
theorem prs_lt {cn : Nat} {rs : F1} {X : Int32} (h1 : 1 ≤ cn) : prs cn rs X < cn := by
  rcases Nat.lt_or_ge (prs cn rs X) cn with q | q
  · exact q
  · have := scan_all (P := prsP cn rs X) 12 0 (cn - 1) (Nat.zero_le _) (by show cn - 1 < prs cn rs X; omega)
    simp [prsP] at this
    omega
def plcP (cn : Nat) (rs : F1) (a : Int32) : Nat → Bool := fun i => decide (i < cn) && decide (rs i < a)
def plc (cn : Nat) (rs : F1) (a : Int32) : Nat := scanB (plcP cn rs a) 12 0
theorem plc_le {cn : Nat} {rs : F1} {a : Int32} : plc cn rs a ≤ cn := by
  rcases Nat.lt_or_ge cn (plc cn rs a) with q | q
  · have := scan_all (P := plcP cn rs a) 12 0 cn (Nat.zero_le _) q
    simp [plcP] at this
  · exact q
theorem nI1_le {a b : Nat} : nI a ≤ nI b + 1 ↔ nI a ≤ nI (b + 1) := by rw [nI_1]
def f_X3_setRow_s0 (rs : F1) (rw_ : Nat) (a : Int32) : F1 := (upd rs rw_ a)
def f_X3_setRow_l0 (rl : F1) (rw_ : Nat) (b : Int32) : F1 := (upd rl rw_ b)
def f_X3_setRow_r0 (rr : F1) (rw_ : Nat) (c_ : Int32) : F1 := (upd rr rw_ c_)
set_option maxHeartbeats 4000000 in
set_option maxRecDepth 100000 in
theorem c_X3_setRow (l : Launch) (D : va_G) (ty : Nat → ClassId) (h : Nat) (s0 : Nat) (l0 : Nat) (r0 : Nat) (cn : Nat) (rs : F1) (rl : F1) (rr : F1) (rw_ : Nat) (a : Int32) (b : Int32) (c_ : Int32) (hr : rw_ < 12) : MC l D ty yX3_setRow cX3_setRow 5 none 0 [.ref h, .int (nI rw_), .int a, .int b, .int c_] [(h, roE cn s0 l0 r0), (s0, arE ty 12 rs), (l0, arE ty 12 rl), (r0, arE ty 12 rr)] none [(h, roE cn s0 l0 r0), (s0, arE ty 12 (f_X3_setRow_s0 rs rw_ a)), (l0, arE ty 12 (f_X3_setRow_l0 rl rw_ b)), (r0, arE ty 12 (f_X3_setRow_r0 rr rw_ c_))] := by
  refine mc_v (by decide +kernel) (Nat.le_of_ble_eq_true rfl) ?_
  intro p e s m args below meth c A Q ls C hK hA X hret hl
  have hx := C.1
  have hb := C.2.1
  have hl : lv_has ls 5 [(0, .ref h), (1, .int (nI rw_)), (2, .int a), (3, .int b), (4, .int c_)] := hl
  have X : Wd D A s.heap [(h, roE cn s0 l0 r0), (s0, arE ty 12 rs), (l0, arE ty 12 rl), (r0, arE ty 12 rr)] s.heap [] := X
  refine lv_aload_n hx hb dX3_setRow_0 rfl (lv_at hl 0 rfl) ?_
  refine get_ro_0 C hK X 0 rfl fl_X3_11 dX3_setRow_1 ?_
  refine lv_iload_n hx hb dX3_setRow_4 rfl (lv_at hl 1 rfl) ?_
  refine lv_iload_n hx hb dX3_setRow_5 rfl (lv_at hl 2 rfl) ?_
  refine s_iasN C hK X 1 rw_ rfl rfl hr (by decide) dX3_setRow_6 (fun H locs X => ?_)
  have X : Wd D A s.heap [(h, roE cn s0 l0 r0), (s0, arE ty 12 (upd rs rw_ a)), (l0, arE ty 12 rl), (r0, arE ty 12 rr)] H locs := X
  refine lv_aload_n hx hb dX3_setRow_7 rfl (lv_at hl 0 rfl) ?_
  refine get_ro_1 C hK X 0 rfl fl_X3_15 dX3_setRow_8 ?_
  refine lv_iload_n hx hb dX3_setRow_11 rfl (lv_at hl 1 rfl) ?_
  refine lv_iload_n hx hb dX3_setRow_12 rfl (lv_at hl 3 rfl) ?_
  refine s_iasN C hK X 2 rw_ rfl rfl hr (by decide) dX3_setRow_13 (fun H locs X => ?_)
  have X : Wd D A s.heap [(h, roE cn s0 l0 r0), (s0, arE ty 12 (upd rs rw_ a)), (l0, arE ty 12 (upd rl rw_ b)), (r0, arE ty 12 rr)] H locs := X
  refine lv_aload_n hx hb dX3_setRow_14 rfl (lv_at hl 0 rfl) ?_
  refine get_ro_2 C hK X 0 rfl fl_X3_18 dX3_setRow_15 ?_
  refine lv_iload_n hx hb dX3_setRow_18 rfl (lv_at hl 1 rfl) ?_
  refine lv_iload hx hb dX3_setRow_19 (lv_at hl 4 rfl) ?_
  refine s_iasN C hK X 3 rw_ rfl rfl hr (by decide) dX3_setRow_21 (fun H locs X => ?_)
  have X : Wd D A s.heap [(h, roE cn s0 l0 r0), (s0, arE ty 12 (upd rs rw_ a)), (l0, arE ty 12 (upd rl rw_ b)), (r0, arE ty 12 (upd rr rw_ c_))] H locs := X
  have e_1_1 : (f_X3_setRow_s0 rs rw_ a) = (upd rs rw_ a) := by first | (rw [f_X3_setRow_s0]; done) | (rw [f_X3_setRow_s0]; rfl) | (simp only [f_X3_setRow_s0]; done)
  have e_2_1 : (f_X3_setRow_l0 rl rw_ b) = (upd rl rw_ b) := by first | (rw [f_X3_setRow_l0]; done) | (rw [f_X3_setRow_l0]; rfl) | (simp only [f_X3_setRow_l0]; done)
  have e_3_1 : (f_X3_setRow_r0 rr rw_ c_) = (upd rr rw_ c_) := by first | (rw [f_X3_setRow_r0]; done) | (rw [f_X3_setRow_r0]; rfl) | (simp only [f_X3_setRow_r0]; done)
  exact hret _ _ _ _ _ dX3_setRow_22 X (by rw [e_1_1, e_2_1, e_3_1])
def f_X3_clear_s0 (rs : F1) : F1 := (f_X3_setRow_s0 rs 0 0)
def f_X3_clear_l0 (rl : F1) : F1 := (f_X3_setRow_l0 rl 0 0)
def f_X3_clear_r0 (rr : F1) : F1 := (f_X3_setRow_r0 rr 0 0)
theorem ok_X3_clear_h : rdOK 1 := ⟨by decide, by decide⟩
set_option maxHeartbeats 4000000 in
set_option maxRecDepth 100000 in
theorem c_X3_clear (l : Launch) (D : va_G) (ty : Nat → ClassId) (h : Nat) (s0 : Nat) (l0 : Nat) (r0 : Nat) (cn : Nat) (rs : F1) (rl : F1) (rr : F1) : MC l D ty yX3_clear cX3_clear 1 none 1 [.ref h] [(h, roE cn s0 l0 r0), (s0, arE ty 12 rs), (l0, arE ty 12 rl), (r0, arE ty 12 rr)] none [(h, roE 1 s0 l0 r0), (s0, arE ty 12 (f_X3_clear_s0 rs)), (l0, arE ty 12 (f_X3_clear_l0 rl)), (r0, arE ty 12 (f_X3_clear_r0 rr))] := by
  refine mc_v (by decide +kernel) (Nat.le_of_ble_eq_true rfl) ?_
  intro p e s m args below meth c A Q ls C hK hA X hret hl
  have hx := C.1
  have hb := C.2.1
  have hl : lv_has ls 1 [(0, .ref h)] := hl
  have X : Wd D A s.heap [(h, roE cn s0 l0 r0), (s0, arE ty 12 rs), (l0, arE ty 12 rl), (r0, arE ty 12 rr)] s.heap [] := X
  refine lv_aload_n hx hb dX3_clear_0 rfl (lv_at hl 0 rfl) ?_
  refine lv_iconst (v := 0) hx hb dX3_clear_1 (by decide) ?_
  refine lv_iconst (v := 0) hx hb dX3_clear_2 (by decide) ?_
  refine lv_iconst (v := 0) hx hb dX3_clear_3 (by decide) ?_
  refine lv_iconst (v := 0) hx hb dX3_clear_4 (by decide) ?_
  refine s_cVv (ws' := [(h, roE cn s0 l0 r0), (s0, arE ty 12 (f_X3_setRow_s0 rs 0 0)), (l0, arE ty 12 (f_X3_setRow_l0 rl 0 0)), (r0, arE ty 12 (f_X3_setRow_r0 rr 0 0))]) C hK hA X (c_X3_setRow l D ty h s0 l0 r0 cn rs rl rr 0 0 0 0 (by decide)) [0, 1, 2, 3] (pk_c rfl (pk_c rfl (pk_c rfl (pk_c rfl pk_n)))) rfl (pk_c rfl (pk_c rfl (pk_c rfl (pk_c rfl pk_n)))) (em_t (em_t (em_t (em_t em_n)))) rfl ml_X3_setRow wm_X3_21 (q0 := 0) rfl rfl rfl ⟨Nat.le_of_ble_eq_true rfl, Nat.le_of_ble_eq_true rfl⟩ ⟨Nat.zero_le _, Nat.zero_le _⟩ hl.1 rfl (Nat.le_of_ble_eq_true rfl) dX3_clear_5 (fun H locs X => ?_)
  refine lv_aload_n hx hb dX3_clear_8 rfl (lv_at hl 0 rfl) ?_
  refine lv_iconst (v := 1) hx hb dX3_clear_9 (by decide) ?_
  refine put_ro_3 C hK X 0 rfl pl_X3_25 rfl dX3_clear_10 (fun H locs X => ?_)
  have X : Wd D A s.heap [(h, roE 1 s0 l0 r0), (s0, arE ty 12 (f_X3_setRow_s0 rs 0 0)), (l0, arE ty 12 (f_X3_setRow_l0 rl 0 0)), (r0, arE ty 12 (f_X3_setRow_r0 rr 0 0))] H locs := X
  have e_1_1 : (f_X3_clear_s0 rs) = (f_X3_setRow_s0 rs 0 0) := by first | (rw [f_X3_clear_s0]; done) | (rw [f_X3_clear_s0]; rfl) | (simp only [f_X3_clear_s0]; done)
  have e_2_1 : (f_X3_clear_l0 rl) = (f_X3_setRow_l0 rl 0 0) := by first | (rw [f_X3_clear_l0]; done) | (rw [f_X3_clear_l0]; rfl) | (simp only [f_X3_clear_l0]; done)
  have e_3_1 : (f_X3_clear_r0 rr) = (f_X3_setRow_r0 rr 0 0) := by first | (rw [f_X3_clear_r0]; done) | (rw [f_X3_clear_r0]; rfl) | (simp only [f_X3_clear_r0]; done)
  exact hret _ _ _ _ _ dX3_clear_13 X (by rw [e_1_1, e_2_1, e_3_1])
def f_X3_copyFrom_s0 (rs : F1) (rs2 : F1) : F1 := (va_cpy rs2 rs 0 0 12)
def f_X3_copyFrom_l0 (rl : F1) (rl2 : F1) : F1 := (va_cpy rl2 rl 0 0 12)
def f_X3_copyFrom_r0 (rr : F1) (rr2 : F1) : F1 := (va_cpy rr2 rr 0 0 12)
theorem ok_X3_copyFrom_h (cn2 : Nat) (tk_h2 : rdOK cn2) : rdOK cn2 := tk_h2
set_option maxHeartbeats 4000000 in
set_option maxRecDepth 100000 in
theorem c_X3_copyFrom (l : Launch) (D : va_G) (ty : Nat → ClassId) (h : Nat) (s0 : Nat) (l0 : Nat) (r0 : Nat) (cn : Nat) (rs : F1) (rl : F1) (rr : F1) (h2 : Nat) (s02 : Nat) (l02 : Nat) (r02 : Nat) (cn2 : Nat) (rs2 : F1) (rl2 : F1) (rr2 : F1) : MC l D ty yX3_copyFrom cX3_copyFrom 2 none 1 [.ref h, .ref h2] [(h, roE cn s0 l0 r0), (s0, arE ty 12 rs), (l0, arE ty 12 rl), (r0, arE ty 12 rr), (h2, roE cn2 s02 l02 r02), (s02, arE ty 12 rs2), (l02, arE ty 12 rl2), (r02, arE ty 12 rr2)] none [(h, roE cn2 s0 l0 r0), (s0, arE ty 12 (f_X3_copyFrom_s0 rs rs2)), (l0, arE ty 12 (f_X3_copyFrom_l0 rl rl2)), (r0, arE ty 12 (f_X3_copyFrom_r0 rr rr2)), (h2, roE cn2 s02 l02 r02), (s02, arE ty 12 rs2), (l02, arE ty 12 rl2), (r02, arE ty 12 rr2)] := by
  refine mc_v (by decide +kernel) (Nat.le_of_ble_eq_true rfl) ?_
  intro p e s m args below meth c A Q ls C hK hA X hret hl
  have hx := C.1
  have hb := C.2.1
  have hl : lv_has ls 2 [(0, .ref h), (1, .ref h2)] := hl
  have X : Wd D A s.heap [(h, roE cn s0 l0 r0), (s0, arE ty 12 rs), (l0, arE ty 12 rl), (r0, arE ty 12 rr), (h2, roE cn2 s02 l02 r02), (s02, arE ty 12 rs2), (l02, arE ty 12 rl2), (r02, arE ty 12 rr2)] s.heap [] := X
  refine lv_aload_n hx hb dX3_copyFrom_0 rfl (lv_at hl 1 rfl) ?_
  refine get_ro_0 C hK X 4 rfl fl_X3_11 dX3_copyFrom_1 ?_
  refine lv_iconst (v := 0) hx hb dX3_copyFrom_4 (by decide) ?_
  refine lv_aload_n hx hb dX3_copyFrom_5 rfl (lv_at hl 0 rfl) ?_
  refine get_ro_0 C hK X 0 rfl fl_X3_11 dX3_copyFrom_6 ?_
  refine lv_iconst (v := 0) hx hb dX3_copyFrom_9 (by decide) ?_
  refine lv_bipush (v := 12) hx hb dX3_copyFrom_10 (by decide) ?_
  refine s_copyN C hK X hl.1 wm_X3_29 5 1 0 0 12 rfl rfl rfl rfl rfl (by decide) (by decide) (by decide) (by decide) (Nat.le_of_ble_eq_true rfl) (Nat.le_of_ble_eq_true rfl) dX3_copyFrom_12 (fun H locs X => ?_)
  have X : Wd D A s.heap [(h, roE cn s0 l0 r0), (s0, arE ty 12 (va_cpy rs2 rs 0 0 12)), (l0, arE ty 12 rl), (r0, arE ty 12 rr), (h2, roE cn2 s02 l02 r02), (s02, arE ty 12 rs2), (l02, arE ty 12 rl2), (r02, arE ty 12 rr2)] H locs := X
  refine lv_aload_n hx hb dX3_copyFrom_15 rfl (lv_at hl 1 rfl) ?_
  refine get_ro_1 C hK X 4 rfl fl_X3_15 dX3_copyFrom_16 ?_
  refine lv_iconst (v := 0) hx hb dX3_copyFrom_19 (by decide) ?_
  refine lv_aload_n hx hb dX3_copyFrom_20 rfl (lv_at hl 0 rfl) ?_
  refine get_ro_1 C hK X 0 rfl fl_X3_15 dX3_copyFrom_21 ?_
  refine lv_iconst (v := 0) hx hb dX3_copyFrom_24 (by decide) ?_
  refine lv_bipush (v := 12) hx hb dX3_copyFrom_25 (by decide) ?_
  refine s_copyN C hK X hl.1 wm_X3_29 6 2 0 0 12 rfl rfl rfl rfl rfl (by decide) (by decide) (by decide) (by decide) (Nat.le_of_ble_eq_true rfl) (Nat.le_of_ble_eq_true rfl) dX3_copyFrom_27 (fun H locs X => ?_)
  have X : Wd D A s.heap [(h, roE cn s0 l0 r0), (s0, arE ty 12 (va_cpy rs2 rs 0 0 12)), (l0, arE ty 12 (va_cpy rl2 rl 0 0 12)), (r0, arE ty 12 rr), (h2, roE cn2 s02 l02 r02), (s02, arE ty 12 rs2), (l02, arE ty 12 rl2), (r02, arE ty 12 rr2)] H locs := X
  refine lv_aload_n hx hb dX3_copyFrom_30 rfl (lv_at hl 1 rfl) ?_
  refine get_ro_2 C hK X 4 rfl fl_X3_18 dX3_copyFrom_31 ?_
  refine lv_iconst (v := 0) hx hb dX3_copyFrom_34 (by decide) ?_
  refine lv_aload_n hx hb dX3_copyFrom_35 rfl (lv_at hl 0 rfl) ?_
  refine get_ro_2 C hK X 0 rfl fl_X3_18 dX3_copyFrom_36 ?_
  refine lv_iconst (v := 0) hx hb dX3_copyFrom_39 (by decide) ?_
  refine lv_bipush (v := 12) hx hb dX3_copyFrom_40 (by decide) ?_
  refine s_copyN C hK X hl.1 wm_X3_29 7 3 0 0 12 rfl rfl rfl rfl rfl (by decide) (by decide) (by decide) (by decide) (Nat.le_of_ble_eq_true rfl) (Nat.le_of_ble_eq_true rfl) dX3_copyFrom_42 (fun H locs X => ?_)
  have X : Wd D A s.heap [(h, roE cn s0 l0 r0), (s0, arE ty 12 (va_cpy rs2 rs 0 0 12)), (l0, arE ty 12 (va_cpy rl2 rl 0 0 12)), (r0, arE ty 12 (va_cpy rr2 rr 0 0 12)), (h2, roE cn2 s02 l02 r02), (s02, arE ty 12 rs2), (l02, arE ty 12 rl2), (r02, arE ty 12 rr2)] H locs := X
  refine lv_aload_n hx hb dX3_copyFrom_45 rfl (lv_at hl 0 rfl) ?_
  refine lv_aload_n hx hb dX3_copyFrom_46 rfl (lv_at hl 1 rfl) ?_
  refine get_ro_3 C hK X 4 rfl fl_X3_25 dX3_copyFrom_47 ?_
  refine put_ro_3 C hK X 0 rfl pl_X3_25 rfl dX3_copyFrom_50 (fun H locs X => ?_)
  have X : Wd D A s.heap [(h, roE cn2 s0 l0 r0), (s0, arE ty 12 (va_cpy rs2 rs 0 0 12)), (l0, arE ty 12 (va_cpy rl2 rl 0 0 12)), (r0, arE ty 12 (va_cpy rr2 rr 0 0 12)), (h2, roE cn2 s02 l02 r02), (s02, arE ty 12 rs2), (l02, arE ty 12 rl2), (r02, arE ty 12 rr2)] H locs := X
  have e_1_1 : (f_X3_copyFrom_s0 rs rs2) = (va_cpy rs2 rs 0 0 12) := by first | (rw [f_X3_copyFrom_s0]; done) | (rw [f_X3_copyFrom_s0]; rfl) | (simp only [f_X3_copyFrom_s0]; done)
  have e_2_1 : (f_X3_copyFrom_l0 rl rl2) = (va_cpy rl2 rl 0 0 12) := by first | (rw [f_X3_copyFrom_l0]; done) | (rw [f_X3_copyFrom_l0]; rfl) | (simp only [f_X3_copyFrom_l0]; done)
  have e_3_1 : (f_X3_copyFrom_r0 rr rr2) = (va_cpy rr2 rr 0 0 12) := by first | (rw [f_X3_copyFrom_r0]; done) | (rw [f_X3_copyFrom_r0]; rfl) | (simp only [f_X3_copyFrom_r0]; done)
  exact hret _ _ _ _ _ dX3_copyFrom_53 X (by rw [e_1_1, e_2_1, e_3_1])
set_option maxHeartbeats 4000000 in
set_option maxRecDepth 100000 in
theorem c_X3_present (l : Launch) (D : va_G) (ty : Nat → ClassId) (h : Nat) (s0 : Nat) (l0 : Nat) (r0 : Nat) (cn : Nat) (rs : F1) (rl : F1) (rr : F1) (X_ : Int32) (hd : rdOK cn) : MC l D ty yX3_present cX3_present 3 (some .int) 0 [.ref h, .int X_] [(h, roE cn s0 l0 r0), (s0, arE ty 12 rs), (l0, arE ty 12 rl), (r0, arE ty 12 rr)] (some (.int (nI (prs cn rs X_)))) [(h, roE cn s0 l0 r0), (s0, arE ty 12 rs), (l0, arE ty 12 rl), (r0, arE ty 12 rr)] := by
  refine mc_i (by decide +kernel) (Nat.le_of_ble_eq_true rfl) ?_
  intro p e s m args below meth c A Q ls C hK hA X hret hl
  have hx := C.1
  have hb := C.2.1
  have hl : lv_has ls 3 [(0, .ref h), (1, .int X_)] := hl
  have X : Wd D A s.heap [(h, roE cn s0 l0 r0), (s0, arE ty 12 rs), (l0, arE ty 12 rl), (r0, arE ty 12 rr)] s.heap [] := X
  have h1 : 1 ≤ cn := hd.1
  have hc : cn ≤ 12 := hd.2
  refine lv_iconst (v := 0) hx hb dX3_present_0 (by decide) ?_
  refine lv_istore_n (lv' := [(2, .int 0), (0, .ref h), (1, .int X_)]) hx hb dX3_present_1 rfl hl (by decide) rfl (fun ls hl => ?_)
  have K1 : ∀ (y1_0 : Int32) (ls : Array Slot) (H : Heap) (locs : List Loc), y1_0 = (nI (prs cn rs X_)) → lv_has ls 3 [(2, .int y1_0), (0, .ref h), (1, .int X_)] → Wd D A s.heap [(h, roE cn s0 l0 r0), (s0, arE ty 12 rs), (l0, arE ty 12 rl), (r0, arE ty 12 rr)] H locs → W p l e (rmD 0) s m args below meth c H locs 0 0 Q (F0 m 30 ls []) := by
    intro y1_0 ls H locs ey1_0 hl X
    subst ey1_0
    refine lv_iload_n hx hb dX3_present_30 rfl (lv_at hl 0 rfl) ?_
    exact hret _ _ _ _ _ _ dX3_present_31 X rfl rfl
  have L1 : ∀ (kf i : Nat) (y1_0 : Int32) (ls : Array Slot) (H : Heap) (locs : List Loc), 12 - i < kf → (i ≤ 12 ∧ scanB (prsP cn rs X_) (12 - i) i = prs cn rs X_) → y1_0 = (nI i) → lv_has ls 3 [(2, .int y1_0), (0, .ref h), (1, .int X_)] → Wd D A s.heap [(h, roE cn s0 l0 r0), (s0, arE ty 12 rs), (l0, arE ty 12 rl), (r0, arE ty 12 rr)] H locs → W p l e (rmD 0) s m args below meth c H locs 0 0 Q (F0 m 2 ls []) := by
    intro kf
    induction kf with
    | zero => intro i y1_0 ls H locs hk; exact absurd hk (Nat.not_lt_zero _)
    | succ kf ih1 =>
      intro i y1_0 ls H locs hk hI ey1_0 hl X
      subst ey1_0
      obtain ⟨hI1, hI2⟩ := hI
      refine lv_iload_n hx hb dX3_present_2 rfl (lv_at hl 0 rfl) ?_
      refine lv_iconst (v := 1) hx hb dX3_present_3 (by decide) ?_
      refine lv_iadd hx hb dX3_present_4 ?_
      refine lv_aload_n hx hb dX3_present_5 rfl (lv_at hl 1 rfl) ?_
      refine get_ro_3 C hK X 0 rfl fl_X3_25 dX3_present_6 ?_
      refine lv_icmp_ge (tgt := 30) hx hb dX3_present_9 (by decide) (fun c0_0 => ?_) (fun c0_0 => ?_)
      · have hE : prs cn rs X_ = i := by rw [← hI2]; exact scan_stop (by simp [prsP, Nat.not_lt.mpr ((nI_leI (a := cn) (b := i + 1) (by omega) (by omega)).mp (nI1_le.mp c0_0))])
        exact K1 (nI i) _ _ _ (by rw [hE]) (lv_sub hl [0, 1, 2] rfl) X
      · have h1 : i + 1 < cn := lt_of_nnIle (by omega) (by omega) (fun q => c0_0 (nI1_le.mpr q))
        refine lv_aload_n hx hb dX3_present_12 rfl (lv_at hl 1 rfl) ?_
        refine get_ro_0 C hK X 0 rfl fl_X3_11 dX3_present_13 ?_
        refine lv_iload_n hx hb dX3_present_16 rfl (lv_at hl 0 rfl) ?_
        refine lv_iconst (v := 1) hx hb dX3_present_17 (by decide) ?_
        refine lv_iadd hx hb dX3_present_18 ?_
        refine s_eqi (y := nI (i + 1)) (nI_1 i) ?_
        refine s_ialN C hK X 1 (i + 1) rfl rfl (by omega) (by decide) dX3_present_19 ?_
        refine lv_iload_n hx hb dX3_present_20 rfl (lv_at hl 2 rfl) ?_
        refine lv_icmp_gt (tgt := 30) hx hb dX3_present_21 (by decide) (fun c1_1 => ?_) (fun c1_1 => ?_)
        · have hE : prs cn rs X_ = i := by rw [← hI2]; exact scan_stop (by simp [prsP, Int32.not_le.mpr c1_1])
          exact K1 (nI i) _ _ _ (by rw [hE]) (lv_sub hl [0, 1, 2] rfl) X
        · refine lv_iinc (v := ((nI i) + 1)) (lv' := [(2, .int ((nI i) + 1)), (0, .ref h), (1, .int X_)]) hx hb dX3_present_24 hl (k := 0) rfl rfl (by decide) rfl (fun ls hl => ?_)
          refine lv_goto (tgt := 2) hx hb dX3_present_27 (by decide) ?_
          have hP : prsP cn rs X_ i = true := by simp [prsP, h1, Int32.not_lt.mp c1_1]
          exact ih1 (i + 1) ((nI i) + 1) _ _ _ (by omega) ⟨by omega, by rw [← hI2, ← scan_go (k := 12 - i) (by omega) hP, show 12 - (i + 1) = 12 - i - 1 by omega]⟩ (nI_1 i) (lv_sub hl [0, 1, 2] rfl) X
  exact L1 (12 + 1) 0 0 _ _ _ (by omega) ⟨by omega, rfl⟩ rfl (lv_sub hl [0, 1, 2] rfl) X
def f_X3_surfaceAt (cn : Nat) (rs : F1) (rl : F1) (rr : F1) (X_ : Int32) (lf : Int32) : Int32 := (if lf = 0 then (rr (prs cn rs X_)) else (rl (prs cn rs X_)))
set_option maxHeartbeats 4000000 in
set_option maxRecDepth 100000 in
theorem c_X3_surfaceAt (l : Launch) (D : va_G) (ty : Nat → ClassId) (h : Nat) (s0 : Nat) (l0 : Nat) (r0 : Nat) (cn : Nat) (rs : F1) (rl : F1) (rr : F1) (X_ : Int32) (lf : Int32) (hd : rdOK cn) : MC l D ty yX3_surfaceAt cX3_surfaceAt 4 (some .int) 1 [.ref h, .int X_, .int lf] [(h, roE cn s0 l0 r0), (s0, arE ty 12 rs), (l0, arE ty 12 rl), (r0, arE ty 12 rr)] (some (.int (f_X3_surfaceAt cn rs rl rr X_ lf))) [(h, roE cn s0 l0 r0), (s0, arE ty 12 rs), (l0, arE ty 12 rl), (r0, arE ty 12 rr)] := by
  refine mc_i (by decide +kernel) (Nat.le_of_ble_eq_true rfl) ?_
  intro p e s m args below meth c A Q ls C hK hA X hret hl
  have hx := C.1
  have hb := C.2.1
  have hl : lv_has ls 4 [(0, .ref h), (1, .int X_), (2, .int lf)] := hl
  have X : Wd D A s.heap [(h, roE cn s0 l0 r0), (s0, arE ty 12 rs), (l0, arE ty 12 rl), (r0, arE ty 12 rr)] s.heap [] := X
  have h1 : 1 ≤ cn := hd.1
  have hc : cn ≤ 12 := hd.2
  have hq : prs cn rs X_ < cn := prs_lt h1
  refine lv_aload_n hx hb dX3_surfaceAt_0 rfl (lv_at hl 0 rfl) ?_
  refine lv_iload_n hx hb dX3_surfaceAt_1 rfl (lv_at hl 1 rfl) ?_
  refine s_cV0i C hK hA X (c_X3_present l D ty h s0 l0 r0 cn rs rl rr X_ hd) [0, 1, 2, 3] (pk_c rfl (pk_c rfl (pk_c rfl (pk_c rfl pk_n)))) rfl ml_X3_present wm_X3_35 (q0 := 0) rfl rfl rfl ⟨Nat.le_of_ble_eq_true rfl, Nat.le_of_ble_eq_true rfl⟩ ⟨Nat.zero_le _, Nat.zero_le _⟩ hl.1 rfl (Nat.le_of_ble_eq_true rfl) dX3_surfaceAt_2 (fun H locs X => ?_)
  refine lv_istore_n (lv' := [(3, .int (nI (prs cn rs X_))), (0, .ref h), (1, .int X_), (2, .int lf)]) hx hb dX3_surfaceAt_5 rfl hl (by decide) rfl (fun ls hl => ?_)
  refine lv_iload_n hx hb dX3_surfaceAt_6 rfl (lv_at hl 3 rfl) ?_
  refine lv_if_eq (tgt := 19) hx hb dX3_surfaceAt_7 (by decide) (fun c0_0 => ?_) (fun c0_0 => ?_)
  · refine lv_aload_n hx hb dX3_surfaceAt_19 rfl (lv_at hl 1 rfl) ?_
    refine get_ro_2 C hK X 0 rfl fl_X3_18 dX3_surfaceAt_20 ?_
    refine lv_iload_n hx hb dX3_surfaceAt_23 rfl (lv_at hl 0 rfl) ?_
    refine s_ialN C hK X 3 (prs cn rs X_) rfl rfl (by omega) (by decide) dX3_surfaceAt_24 ?_
    exact hret _ _ _ _ _ _ dX3_surfaceAt_25 X rfl (by first | (rw [f_X3_surfaceAt, if_pos c0_0]; done) | (rw [f_X3_surfaceAt, if_pos c0_0]; rfl) | (simp only [f_X3_surfaceAt, if_pos c0_0]; done))
  · refine lv_aload_n hx hb dX3_surfaceAt_10 rfl (lv_at hl 1 rfl) ?_
    refine get_ro_1 C hK X 0 rfl fl_X3_15 dX3_surfaceAt_11 ?_
    refine lv_iload_n hx hb dX3_surfaceAt_14 rfl (lv_at hl 0 rfl) ?_
    refine s_ialN C hK X 2 (prs cn rs X_) rfl rfl (by omega) (by decide) dX3_surfaceAt_15 ?_
    refine lv_goto (tgt := 25) hx hb dX3_surfaceAt_16 (by decide) ?_
    exact hret _ _ _ _ _ _ dX3_surfaceAt_25 X rfl (by first | (rw [f_X3_surfaceAt, if_neg c0_0]; done) | (rw [f_X3_surfaceAt, if_neg c0_0]; rfl) | (simp only [f_X3_surfaceAt, if_neg c0_0]; done))
set_option maxHeartbeats 4000000 in
set_option maxRecDepth 100000 in
theorem c_X3_placeOf (l : Launch) (D : va_G) (ty : Nat → ClassId) (h : Nat) (s0 : Nat) (l0 : Nat) (r0 : Nat) (cn : Nat) (rs : F1) (rl : F1) (rr : F1) (a : Int32) (hd : rdOK cn) : MC l D ty yX3_placeOf cX3_placeOf 3 (some .int) 0 [.ref h, .int a] [(h, roE cn s0 l0 r0), (s0, arE ty 12 rs), (l0, arE ty 12 rl), (r0, arE ty 12 rr)] (some (.int (nI (plc cn rs a)))) [(h, roE cn s0 l0 r0), (s0, arE ty 12 rs), (l0, arE ty 12 rl), (r0, arE ty 12 rr)] := by
  refine mc_i (by decide +kernel) (Nat.le_of_ble_eq_true rfl) ?_
  intro p e s m args below meth c A Q ls C hK hA X hret hl
  have hx := C.1
  have hb := C.2.1
  have hl : lv_has ls 3 [(0, .ref h), (1, .int a)] := hl
  have X : Wd D A s.heap [(h, roE cn s0 l0 r0), (s0, arE ty 12 rs), (l0, arE ty 12 rl), (r0, arE ty 12 rr)] s.heap [] := X
  have h1 : 1 ≤ cn := hd.1
  have hc : cn ≤ 12 := hd.2
  refine lv_iconst (v := 0) hx hb dX3_placeOf_0 (by decide) ?_
  refine lv_istore_n (lv' := [(2, .int 0), (0, .ref h), (1, .int a)]) hx hb dX3_placeOf_1 rfl hl (by decide) rfl (fun ls hl => ?_)
  have K1 : ∀ (y1_0 : Int32) (ls : Array Slot) (H : Heap) (locs : List Loc), y1_0 = (nI (plc cn rs a)) → lv_has ls 3 [(2, .int y1_0), (0, .ref h), (1, .int a)] → Wd D A s.heap [(h, roE cn s0 l0 r0), (s0, arE ty 12 rs), (l0, arE ty 12 rl), (r0, arE ty 12 rr)] H locs → W p l e (rmD 0) s m args below meth c H locs 0 0 Q (F0 m 26 ls []) := by
    intro y1_0 ls H locs ey1_0 hl X
    subst ey1_0
    refine lv_iload_n hx hb dX3_placeOf_26 rfl (lv_at hl 0 rfl) ?_
    exact hret _ _ _ _ _ _ dX3_placeOf_27 X rfl rfl
  have L1 : ∀ (kf i : Nat) (y1_0 : Int32) (ls : Array Slot) (H : Heap) (locs : List Loc), 12 - i < kf → (i ≤ 12 ∧ scanB (plcP cn rs a) (12 - i) i = plc cn rs a) → y1_0 = (nI i) → lv_has ls 3 [(2, .int y1_0), (0, .ref h), (1, .int a)] → Wd D A s.heap [(h, roE cn s0 l0 r0), (s0, arE ty 12 rs), (l0, arE ty 12 rl), (r0, arE ty 12 rr)] H locs → W p l e (rmD 0) s m args below meth c H locs 0 0 Q (F0 m 2 ls []) := by
    intro kf
    induction kf with
    | zero => intro i y1_0 ls H locs hk; exact absurd hk (Nat.not_lt_zero _)
    | succ kf ih1 =>
      intro i y1_0 ls H locs hk hI ey1_0 hl X
      subst ey1_0
      obtain ⟨hI1, hI2⟩ := hI
      refine lv_iload_n hx hb dX3_placeOf_2 rfl (lv_at hl 0 rfl) ?_
      refine lv_aload_n hx hb dX3_placeOf_3 rfl (lv_at hl 1 rfl) ?_
      refine get_ro_3 C hK X 0 rfl fl_X3_25 dX3_placeOf_4 ?_
      refine lv_icmp_ge (tgt := 26) hx hb dX3_placeOf_7 (by decide) (fun c0_0 => ?_) (fun c0_0 => ?_)
      · have hE : plc cn rs a = i := by rw [← hI2]; exact scan_stop (by simp [plcP, Nat.not_lt.mpr ((nI_leI (a := cn) (b := i) (by omega) (by omega)).mp c0_0)])
        exact K1 (nI i) _ _ _ (by rw [hE]) (lv_sub hl [0, 1, 2] rfl) X
      · have h1 : i < cn := lt_of_nnIle (by omega) (by omega) c0_0
        refine lv_aload_n hx hb dX3_placeOf_10 rfl (lv_at hl 1 rfl) ?_
        refine get_ro_0 C hK X 0 rfl fl_X3_11 dX3_placeOf_11 ?_
        refine lv_iload_n hx hb dX3_placeOf_14 rfl (lv_at hl 0 rfl) ?_
        refine s_ialN C hK X 1 i rfl rfl (by omega) (by decide) dX3_placeOf_15 ?_
        refine lv_iload_n hx hb dX3_placeOf_16 rfl (lv_at hl 2 rfl) ?_
        refine lv_icmp_ge (tgt := 26) hx hb dX3_placeOf_17 (by decide) (fun c1_1 => ?_) (fun c1_1 => ?_)
        · have hE : plc cn rs a = i := by rw [← hI2]; exact scan_stop (by simp [plcP, Int32.not_lt.mpr c1_1])
          exact K1 (nI i) _ _ _ (by rw [hE]) (lv_sub hl [0, 1, 2] rfl) X
        · refine lv_iinc (v := ((nI i) + 1)) (lv' := [(2, .int ((nI i) + 1)), (0, .ref h), (1, .int a)]) hx hb dX3_placeOf_20 hl (k := 0) rfl rfl (by decide) rfl (fun ls hl => ?_)
          refine lv_goto (tgt := 2) hx hb dX3_placeOf_23 (by decide) ?_
          have hP : plcP cn rs a i = true := by simp [plcP, h1, Int32.not_le.mp c1_1]
          exact ih1 (i + 1) ((nI i) + 1) _ _ _ (by omega) ⟨by omega, by rw [← hI2, ← scan_go (k := 12 - i) (by omega) hP, show 12 - (i + 1) = 12 - i - 1 by omega]⟩ (nI_1 i) (lv_sub hl [0, 1, 2] rfl) X
  exact L1 (12 + 1) 0 0 _ _ _ (by omega) ⟨by omega, rfl⟩ rfl (lv_sub hl [0, 1, 2] rfl) X
def f_X3_isStart (cn : Nat) (rs : F1) (pl : Nat) (a : Int32) : Int32 := (if (nI cn) ≤ (nI pl) then 0 else (if (rs pl) = a then 1 else 0))
theorem isStart_lt {cn : Nat} {rs : F1} {pl : Nat} {a : Int32} (c : ¬ (f_X3_isStart cn rs pl a) = 0) : nI pl < nI cn := by
  unfold f_X3_isStart at c
  rcases Int32.lt_or_le (nI pl) (nI cn) with q | q
  · exact q
  · exact absurd (if_pos q) c
set_option maxHeartbeats 4000000 in
set_option maxRecDepth 100000 in
theorem c_X3_isStart (l : Launch) (D : va_G) (ty : Nat → ClassId) (h : Nat) (s0 : Nat) (l0 : Nat) (r0 : Nat) (cn : Nat) (rs : F1) (rl : F1) (rr : F1) (pl : Nat) (a : Int32) (hd : rdOK cn) (hp : pl ≤ 12) : MC l D ty yX3_isStart cX3_isStart 3 (some .boolean) 0 [.ref h, .int (nI pl), .int a] [(h, roE cn s0 l0 r0), (s0, arE ty 12 rs), (l0, arE ty 12 rl), (r0, arE ty 12 rr)] (some (.int (f_X3_isStart cn rs pl a))) [(h, roE cn s0 l0 r0), (s0, arE ty 12 rs), (l0, arE ty 12 rl), (r0, arE ty 12 rr)] := by
  refine mc_z (by decide +kernel) (Nat.le_of_ble_eq_true rfl) (and_b (by unfold f_X3_isStart; (repeat' split) <;> first | exact isB0 | exact isB1)) ?_
  intro p e s m args below meth c A Q ls C hK hA X hret hl
  have hx := C.1
  have hb := C.2.1
  have hl : lv_has ls 3 [(0, .ref h), (1, .int (nI pl)), (2, .int a)] := hl
  have X : Wd D A s.heap [(h, roE cn s0 l0 r0), (s0, arE ty 12 rs), (l0, arE ty 12 rl), (r0, arE ty 12 rr)] s.heap [] := X
  have h1 : 1 ≤ cn := hd.1
  have hc : cn ≤ 12 := hd.2
  refine lv_iload_n hx hb dX3_isStart_0 rfl (lv_at hl 1 rfl) ?_
  refine lv_aload_n hx hb dX3_isStart_1 rfl (lv_at hl 0 rfl) ?_
  refine get_ro_3 C hK X 0 rfl fl_X3_25 dX3_isStart_2 ?_
  refine lv_icmp_ge (tgt := 22) hx hb dX3_isStart_5 (by decide) (fun c0_0 => ?_) (fun c0_0 => ?_)
  · refine lv_iconst (v := 0) hx hb dX3_isStart_22 (by decide) ?_
    exact hret _ _ _ _ _ _ dX3_isStart_23 X rfl (by first | (rw [f_X3_isStart, if_pos c0_0]; done) | (rw [f_X3_isStart, if_pos c0_0]; rfl) | (simp only [f_X3_isStart, if_pos c0_0]; done))
  · have h1 : pl < cn := lt_of_nnIle (by omega) (by omega) c0_0
    refine lv_aload_n hx hb dX3_isStart_8 rfl (lv_at hl 0 rfl) ?_
    refine get_ro_0 C hK X 0 rfl fl_X3_11 dX3_isStart_9 ?_
    refine lv_iload_n hx hb dX3_isStart_12 rfl (lv_at hl 1 rfl) ?_
    refine s_ialN C hK X 1 pl rfl rfl (by omega) (by decide) dX3_isStart_13 ?_
    refine lv_iload_n hx hb dX3_isStart_14 rfl (lv_at hl 2 rfl) ?_
    refine lv_icmp_ne (tgt := 22) hx hb dX3_isStart_15 (by decide) (fun c1_1 => ?_) (fun c1_1 => ?_)
    · refine lv_iconst (v := 0) hx hb dX3_isStart_22 (by decide) ?_
      exact hret _ _ _ _ _ _ dX3_isStart_23 X rfl (by first | (rw [f_X3_isStart, if_neg c0_0, if_neg c1_1]; done) | (rw [f_X3_isStart, if_neg c0_0, if_neg c1_1]; rfl) | (simp only [f_X3_isStart, if_neg c0_0, if_neg c1_1]; done))
    · refine lv_iconst (v := 1) hx hb dX3_isStart_18 (by decide) ?_
      refine lv_goto (tgt := 23) hx hb dX3_isStart_19 (by decide) ?_
      exact hret _ _ _ _ _ _ dX3_isStart_23 X rfl (by first | (rw [f_X3_isStart, if_neg c0_0, if_pos c1_1]; done) | (rw [f_X3_isStart, if_neg c0_0, if_pos c1_1]; rfl) | (simp only [f_X3_isStart, if_neg c0_0, if_pos c1_1]; done))
def f_X3_hasRoomFor (cn : Nat) (rs : F1) (a : Int32) : Int32 := (if (nI cn) < 12 then 1 else (if (f_X3_isStart cn rs (plc cn rs a) a) = 0 then 0 else 1))
set_option maxHeartbeats 4000000 in
set_option maxRecDepth 100000 in
theorem c_X3_hasRoomFor (l : Launch) (D : va_G) (ty : Nat → ClassId) (h : Nat) (s0 : Nat) (l0 : Nat) (r0 : Nat) (cn : Nat) (rs : F1) (rl : F1) (rr : F1) (a : Int32) (hd : rdOK cn) : MC l D ty yX3_hasRoomFor cX3_hasRoomFor 2 (some .boolean) 1 [.ref h, .int a] [(h, roE cn s0 l0 r0), (s0, arE ty 12 rs), (l0, arE ty 12 rl), (r0, arE ty 12 rr)] (some (.int (f_X3_hasRoomFor cn rs a))) [(h, roE cn s0 l0 r0), (s0, arE ty 12 rs), (l0, arE ty 12 rl), (r0, arE ty 12 rr)] := by
  refine mc_z (by decide +kernel) (Nat.le_of_ble_eq_true rfl) (and_b (by unfold f_X3_hasRoomFor; (repeat' split) <;> first | exact isB0 | exact isB1)) ?_
  intro p e s m args below meth c A Q ls C hK hA X hret hl
  have hx := C.1
  have hb := C.2.1
  have hl : lv_has ls 2 [(0, .ref h), (1, .int a)] := hl
  have X : Wd D A s.heap [(h, roE cn s0 l0 r0), (s0, arE ty 12 rs), (l0, arE ty 12 rl), (r0, arE ty 12 rr)] s.heap [] := X
  have h1 : 1 ≤ cn := hd.1
  have hc : cn ≤ 12 := hd.2
  have hq : plc cn rs a ≤ cn := plc_le
  refine lv_aload_n hx hb dX3_hasRoomFor_0 rfl (lv_at hl 0 rfl) ?_
  refine get_ro_3 C hK X 0 rfl fl_X3_25 dX3_hasRoomFor_1 ?_
  refine lv_bipush (v := 12) hx hb dX3_hasRoomFor_4 (by decide) ?_
  refine lv_icmp_lt (tgt := 22) hx hb dX3_hasRoomFor_6 (by decide) (fun c0_0 => ?_) (fun c0_0 => ?_)
  · refine lv_iconst (v := 1) hx hb dX3_hasRoomFor_22 (by decide) ?_
    refine lv_goto (tgt := 27) hx hb dX3_hasRoomFor_23 (by decide) ?_
    exact hret _ _ _ _ _ _ dX3_hasRoomFor_27 X rfl (by first | (rw [f_X3_hasRoomFor, if_pos c0_0]; done) | (rw [f_X3_hasRoomFor, if_pos c0_0]; rfl) | (simp only [f_X3_hasRoomFor, if_pos c0_0]; done))
  · refine lv_aload_n hx hb dX3_hasRoomFor_9 rfl (lv_at hl 0 rfl) ?_
    refine lv_aload_n hx hb dX3_hasRoomFor_10 rfl (lv_at hl 0 rfl) ?_
    refine lv_iload_n hx hb dX3_hasRoomFor_11 rfl (lv_at hl 1 rfl) ?_
    refine s_cV0i C hK hA X (c_X3_placeOf l D ty h s0 l0 r0 cn rs rl rr a hd) [0, 1, 2, 3] (pk_c rfl (pk_c rfl (pk_c rfl (pk_c rfl pk_n)))) rfl ml_X3_placeOf wm_X3_39 (q0 := 0) rfl rfl rfl ⟨Nat.le_of_ble_eq_true rfl, Nat.le_of_ble_eq_true rfl⟩ ⟨Nat.zero_le _, Nat.zero_le _⟩ hl.1 rfl (Nat.le_of_ble_eq_true rfl) dX3_hasRoomFor_12 (fun H locs X => ?_)
    refine lv_iload_n hx hb dX3_hasRoomFor_15 rfl (lv_at hl 1 rfl) ?_
    refine s_cV0i C hK hA X (c_X3_isStart l D ty h s0 l0 r0 cn rs rl rr (plc cn rs a) a hd (by omega)) [0, 1, 2, 3] (pk_c rfl (pk_c rfl (pk_c rfl (pk_c rfl pk_n)))) rfl ml_X3_isStart wm_X3_42 (q0 := 0) rfl rfl rfl ⟨Nat.le_of_ble_eq_true rfl, Nat.le_of_ble_eq_true rfl⟩ ⟨Nat.zero_le _, Nat.zero_le _⟩ hl.1 rfl (Nat.le_of_ble_eq_true rfl) dX3_hasRoomFor_16 (fun H locs X => ?_)
    refine lv_if_eq (tgt := 26) hx hb dX3_hasRoomFor_19 (by decide) (fun c1_1 => ?_) (fun c1_1 => ?_)
    · refine lv_iconst (v := 0) hx hb dX3_hasRoomFor_26 (by decide) ?_
      exact hret _ _ _ _ _ _ dX3_hasRoomFor_27 X rfl (by first | (rw [f_X3_hasRoomFor, if_neg c0_0, if_pos c1_1]; done) | (rw [f_X3_hasRoomFor, if_neg c0_0, if_pos c1_1]; rfl) | (simp only [f_X3_hasRoomFor, if_neg c0_0, if_pos c1_1]; done))
    · refine lv_iconst (v := 1) hx hb dX3_hasRoomFor_22 (by decide) ?_
      refine lv_goto (tgt := 27) hx hb dX3_hasRoomFor_23 (by decide) ?_
      exact hret _ _ _ _ _ _ dX3_hasRoomFor_27 X rfl (by first | (rw [f_X3_hasRoomFor, if_neg c0_0, if_neg c1_1]; done) | (rw [f_X3_hasRoomFor, if_neg c0_0, if_neg c1_1]; rfl) | (simp only [f_X3_hasRoomFor, if_neg c0_0, if_neg c1_1]; done))
def f_X3_shift_s0 (rs : F1) (fr : Nat) (to : Nat) (ln : Nat) : F1 := (va_cpy rs rs fr to ln)
def f_X3_shift_l0 (rl : F1) (fr : Nat) (to : Nat) (ln : Nat) : F1 := (va_cpy rl rl fr to ln)
def f_X3_shift_r0 (rr : F1) (fr : Nat) (to : Nat) (ln : Nat) : F1 := (va_cpy rr rr fr to ln)
set_option maxHeartbeats 4000000 in
set_option maxRecDepth 100000 in
theorem c_X3_shift (l : Launch) (D : va_G) (ty : Nat → ClassId) (h : Nat) (s0 : Nat) (l0 : Nat) (r0 : Nat) (cn : Nat) (rs : F1) (rl : F1) (rr : F1) (fr : Nat) (to : Nat) (ln : Nat) (h1 : fr + ln ≤ 12) (h2 : to + ln ≤ 12) : MC l D ty yX3_shift cX3_shift 4 none 1 [.ref h, .int (nI fr), .int (nI to), .int (nI ln)] [(h, roE cn s0 l0 r0), (s0, arE ty 12 rs), (l0, arE ty 12 rl), (r0, arE ty 12 rr)] none [(h, roE cn s0 l0 r0), (s0, arE ty 12 (f_X3_shift_s0 rs fr to ln)), (l0, arE ty 12 (f_X3_shift_l0 rl fr to ln)), (r0, arE ty 12 (f_X3_shift_r0 rr fr to ln))] := by
  refine mc_v (by decide +kernel) (Nat.le_of_ble_eq_true rfl) ?_
  intro p e s m args below meth c A Q ls C hK hA X hret hl
  have hx := C.1
  have hb := C.2.1
  have hl : lv_has ls 4 [(0, .ref h), (1, .int (nI fr)), (2, .int (nI to)), (3, .int (nI ln))] := hl
  have X : Wd D A s.heap [(h, roE cn s0 l0 r0), (s0, arE ty 12 rs), (l0, arE ty 12 rl), (r0, arE ty 12 rr)] s.heap [] := X
  refine lv_aload_n hx hb dX3_shift_0 rfl (lv_at hl 0 rfl) ?_
  refine get_ro_0 C hK X 0 rfl fl_X3_11 dX3_shift_1 ?_
  refine lv_iload_n hx hb dX3_shift_4 rfl (lv_at hl 1 rfl) ?_
  refine lv_aload_n hx hb dX3_shift_5 rfl (lv_at hl 0 rfl) ?_
  refine get_ro_0 C hK X 0 rfl fl_X3_11 dX3_shift_6 ?_
  refine lv_iload_n hx hb dX3_shift_9 rfl (lv_at hl 2 rfl) ?_
  refine lv_iload_n hx hb dX3_shift_10 rfl (lv_at hl 3 rfl) ?_
  refine s_copyN C hK X hl.1 wm_X3_29 1 1 fr to ln rfl rfl rfl rfl rfl h1 h2 (by decide) (by decide) (Nat.le_of_ble_eq_true rfl) (Nat.le_of_ble_eq_true rfl) dX3_shift_11 (fun H locs X => ?_)
  have X : Wd D A s.heap [(h, roE cn s0 l0 r0), (s0, arE ty 12 (va_cpy rs rs fr to ln)), (l0, arE ty 12 rl), (r0, arE ty 12 rr)] H locs := X
  refine lv_aload_n hx hb dX3_shift_14 rfl (lv_at hl 0 rfl) ?_
  refine get_ro_1 C hK X 0 rfl fl_X3_15 dX3_shift_15 ?_
  refine lv_iload_n hx hb dX3_shift_18 rfl (lv_at hl 1 rfl) ?_
  refine lv_aload_n hx hb dX3_shift_19 rfl (lv_at hl 0 rfl) ?_
  refine get_ro_1 C hK X 0 rfl fl_X3_15 dX3_shift_20 ?_
  refine lv_iload_n hx hb dX3_shift_23 rfl (lv_at hl 2 rfl) ?_
  refine lv_iload_n hx hb dX3_shift_24 rfl (lv_at hl 3 rfl) ?_
  refine s_copyN C hK X hl.1 wm_X3_29 2 2 fr to ln rfl rfl rfl rfl rfl h1 h2 (by decide) (by decide) (Nat.le_of_ble_eq_true rfl) (Nat.le_of_ble_eq_true rfl) dX3_shift_25 (fun H locs X => ?_)
  have X : Wd D A s.heap [(h, roE cn s0 l0 r0), (s0, arE ty 12 (va_cpy rs rs fr to ln)), (l0, arE ty 12 (va_cpy rl rl fr to ln)), (r0, arE ty 12 rr)] H locs := X
  refine lv_aload_n hx hb dX3_shift_28 rfl (lv_at hl 0 rfl) ?_
  refine get_ro_2 C hK X 0 rfl fl_X3_18 dX3_shift_29 ?_
  refine lv_iload_n hx hb dX3_shift_32 rfl (lv_at hl 1 rfl) ?_
  refine lv_aload_n hx hb dX3_shift_33 rfl (lv_at hl 0 rfl) ?_
  refine get_ro_2 C hK X 0 rfl fl_X3_18 dX3_shift_34 ?_
  refine lv_iload_n hx hb dX3_shift_37 rfl (lv_at hl 2 rfl) ?_
  refine lv_iload_n hx hb dX3_shift_38 rfl (lv_at hl 3 rfl) ?_
  refine s_copyN C hK X hl.1 wm_X3_29 3 3 fr to ln rfl rfl rfl rfl rfl h1 h2 (by decide) (by decide) (Nat.le_of_ble_eq_true rfl) (Nat.le_of_ble_eq_true rfl) dX3_shift_39 (fun H locs X => ?_)
  have X : Wd D A s.heap [(h, roE cn s0 l0 r0), (s0, arE ty 12 (va_cpy rs rs fr to ln)), (l0, arE ty 12 (va_cpy rl rl fr to ln)), (r0, arE ty 12 (va_cpy rr rr fr to ln))] H locs := X
  have e_1_1 : (f_X3_shift_s0 rs fr to ln) = (va_cpy rs rs fr to ln) := by first | (rw [f_X3_shift_s0]; done) | (rw [f_X3_shift_s0]; rfl) | (simp only [f_X3_shift_s0]; done)
  have e_2_1 : (f_X3_shift_l0 rl fr to ln) = (va_cpy rl rl fr to ln) := by first | (rw [f_X3_shift_l0]; done) | (rw [f_X3_shift_l0]; rfl) | (simp only [f_X3_shift_l0]; done)
  have e_3_1 : (f_X3_shift_r0 rr fr to ln) = (va_cpy rr rr fr to ln) := by first | (rw [f_X3_shift_r0]; done) | (rw [f_X3_shift_r0]; rfl) | (simp only [f_X3_shift_r0]; done)
  exact hret _ _ _ _ _ dX3_shift_42 X (by rw [e_1_1, e_2_1, e_3_1])
def v_X3_put_1 (cn : Nat) (rs : F1) (a : Int32) : F1 := (f_X3_setRow_s0 (f_X3_shift_s0 rs (plc cn rs a) (plc cn rs a + 1) (cn - plc cn rs a)) (plc cn rs a) a)
def v_X3_put_2 (cn : Nat) (rs : F1) (rl : F1) (a : Int32) (b : Int32) : F1 := (f_X3_setRow_l0 (f_X3_shift_l0 rl (plc cn rs a) (plc cn rs a + 1) (cn - plc cn rs a)) (plc cn rs a) b)
def v_X3_put_3 (cn : Nat) (rs : F1) (rr : F1) (a : Int32) (c_ : Int32) : F1 := (f_X3_setRow_r0 (f_X3_shift_r0 rr (plc cn rs a) (plc cn rs a + 1) (cn - plc cn rs a)) (plc cn rs a) c_)
def f_X3_put_h_cn (cn : Nat) (rs : F1) (a : Int32) : Nat := (if (f_X3_isStart cn rs (plc cn rs a) a) = 0 then (if 12 ≤ (nI cn) then cn else (cn + 1)) else cn)
def f_X3_put_s0 (cn : Nat) (rs : F1) (a : Int32) : F1 := (if (f_X3_isStart cn rs (plc cn rs a) a) = 0 then (if 12 ≤ (nI cn) then rs else (v_X3_put_1 cn rs a)) else (f_X3_setRow_s0 rs (plc cn rs a) a))
def f_X3_put_l0 (cn : Nat) (rs : F1) (rl : F1) (a : Int32) (b : Int32) : F1 := (if (f_X3_isStart cn rs (plc cn rs a) a) = 0 then (if 12 ≤ (nI cn) then rl else (v_X3_put_2 cn rs rl a b)) else (f_X3_setRow_l0 rl (plc cn rs a) b))
def f_X3_put_r0 (cn : Nat) (rs : F1) (rr : F1) (a : Int32) (c_ : Int32) : F1 := (if (f_X3_isStart cn rs (plc cn rs a) a) = 0 then (if 12 ≤ (nI cn) then rr else (v_X3_put_3 cn rs rr a c_)) else (f_X3_setRow_r0 rr (plc cn rs a) c_))
theorem ok_X3_put_h (cn : Nat) (rs : F1) (a : Int32) (b : Int32) (hd : rdOK cn) : rdOK (f_X3_put_h_cn cn rs a) := by unfold f_X3_put_h_cn rdOK; have h1 : 1 ≤ cn := hd.1; have h2 : cn ≤ 12 := hd.2; split <;> first | omega | (split <;> first | omega | (rename_i q; have := lt_of_nnIle (a := 12) (b := cn) (by decide) (by omega) q; omega))
set_option maxHeartbeats 4000000 in
set_option maxRecDepth 100000 in
theorem c_X3_put (l : Launch) (D : va_G) (ty : Nat → ClassId) (h : Nat) (s0 : Nat) (l0 : Nat) (r0 : Nat) (cn : Nat) (rs : F1) (rl : F1) (rr : F1) (a : Int32) (b : Int32) (c_ : Int32) (hd : rdOK cn) : MC l D ty yX3_put cX3_put 5 none 2 [.ref h, .int a, .int b, .int c_] [(h, roE cn s0 l0 r0), (s0, arE ty 12 rs), (l0, arE ty 12 rl), (r0, arE ty 12 rr)] none [(h, roE (f_X3_put_h_cn cn rs a) s0 l0 r0), (s0, arE ty 12 (f_X3_put_s0 cn rs a)), (l0, arE ty 12 (f_X3_put_l0 cn rs rl a b)), (r0, arE ty 12 (f_X3_put_r0 cn rs rr a c_))] := by
  refine mc_v (by decide +kernel) (Nat.le_of_ble_eq_true rfl) ?_
  intro p e s m args below meth c A Q ls C hK hA X hret hl
  have hx := C.1
  have hb := C.2.1
  have hl : lv_has ls 5 [(0, .ref h), (1, .int a), (2, .int b), (3, .int c_)] := hl
  have X : Wd D A s.heap [(h, roE cn s0 l0 r0), (s0, arE ty 12 rs), (l0, arE ty 12 rl), (r0, arE ty 12 rr)] s.heap [] := X
  have h1 : 1 ≤ cn := hd.1
  have hc : cn ≤ 12 := hd.2
  have hq : plc cn rs a ≤ cn := plc_le
  refine lv_aload_n hx hb dX3_put_0 rfl (lv_at hl 0 rfl) ?_
  refine lv_iload_n hx hb dX3_put_1 rfl (lv_at hl 1 rfl) ?_
  refine s_cV0i C hK hA X (c_X3_placeOf l D ty h s0 l0 r0 cn rs rl rr a hd) [0, 1, 2, 3] (pk_c rfl (pk_c rfl (pk_c rfl (pk_c rfl pk_n)))) rfl ml_X3_placeOf wm_X3_39 (q0 := 0) rfl rfl rfl ⟨Nat.le_of_ble_eq_true rfl, Nat.le_of_ble_eq_true rfl⟩ ⟨Nat.zero_le _, Nat.zero_le _⟩ hl.1 rfl (Nat.le_of_ble_eq_true rfl) dX3_put_2 (fun H locs X => ?_)
  refine lv_istore (lv' := [(4, .int (nI (plc cn rs a))), (0, .ref h), (1, .int a), (2, .int b), (3, .int c_)]) hx hb dX3_put_5 hl (by decide) rfl (fun ls hl => ?_)
  refine lv_aload_n hx hb dX3_put_7 rfl (lv_at hl 1 rfl) ?_
  refine lv_iload hx hb dX3_put_8 (lv_at hl 0 rfl) ?_
  refine lv_iload_n hx hb dX3_put_10 rfl (lv_at hl 2 rfl) ?_
  refine s_cV0i C hK hA X (c_X3_isStart l D ty h s0 l0 r0 cn rs rl rr (plc cn rs a) a hd (by omega)) [0, 1, 2, 3] (pk_c rfl (pk_c rfl (pk_c rfl (pk_c rfl pk_n)))) rfl ml_X3_isStart wm_X3_42 (q0 := 0) rfl rfl rfl ⟨Nat.le_of_ble_eq_true rfl, Nat.le_of_ble_eq_true rfl⟩ ⟨Nat.zero_le _, Nat.zero_le _⟩ hl.1 rfl (Nat.le_of_ble_eq_true rfl) dX3_put_11 (fun H locs X => ?_)
  refine lv_if_eq (tgt := 29) hx hb dX3_put_14 (by decide) (fun c0_0 => ?_) (fun c0_0 => ?_)
  · refine lv_aload_n hx hb dX3_put_29 rfl (lv_at hl 1 rfl) ?_
    refine get_ro_3 C hK X 0 rfl fl_X3_25 dX3_put_30 ?_
    refine lv_bipush (v := 12) hx hb dX3_put_33 (by decide) ?_
    refine lv_icmp_ge (tgt := 74) hx hb dX3_put_35 (by decide) (fun c1_1 => ?_) (fun c1_1 => ?_)
    · have e_0_0 : (f_X3_put_h_cn cn rs a) = cn := by first | (rw [f_X3_put_h_cn, if_pos c0_0, if_pos c1_1]; done) | (rw [f_X3_put_h_cn, if_pos c0_0, if_pos c1_1]; rfl) | (simp only [f_X3_put_h_cn, if_pos c0_0, if_pos c1_1]; done)
      have e_1_1 : (f_X3_put_s0 cn rs a) = rs := by first | (rw [f_X3_put_s0, if_pos c0_0, if_pos c1_1]; done) | (rw [f_X3_put_s0, if_pos c0_0, if_pos c1_1]; rfl) | (simp only [f_X3_put_s0, if_pos c0_0, if_pos c1_1]; done)
      have e_2_1 : (f_X3_put_l0 cn rs rl a b) = rl := by first | (rw [f_X3_put_l0, if_pos c0_0, if_pos c1_1]; done) | (rw [f_X3_put_l0, if_pos c0_0, if_pos c1_1]; rfl) | (simp only [f_X3_put_l0, if_pos c0_0, if_pos c1_1]; done)
      have e_3_1 : (f_X3_put_r0 cn rs rr a c_) = rr := by first | (rw [f_X3_put_r0, if_pos c0_0, if_pos c1_1]; done) | (rw [f_X3_put_r0, if_pos c0_0, if_pos c1_1]; rfl) | (simp only [f_X3_put_r0, if_pos c0_0, if_pos c1_1]; done)
      exact hret _ _ _ _ _ dX3_put_74 X (by rw [e_0_0, e_1_1, e_2_1, e_3_1])
    · have h2 : cn < 12 := lt_of_nnIle (a := 12) (by decide) (by omega) (b := cn) c1_1
      refine lv_aload_n hx hb dX3_put_38 rfl (lv_at hl 1 rfl) ?_
      refine lv_iload hx hb dX3_put_39 (lv_at hl 0 rfl) ?_
      refine lv_iload hx hb dX3_put_41 (lv_at hl 0 rfl) ?_
      refine lv_iconst (v := 1) hx hb dX3_put_43 (by decide) ?_
      refine lv_iadd hx hb dX3_put_44 ?_
      refine s_eqi (y := nI (plc cn rs a + 1)) (nI_1 _) ?_
      refine lv_aload_n hx hb dX3_put_45 rfl (lv_at hl 1 rfl) ?_
      refine get_ro_3 C hK X 0 rfl fl_X3_25 dX3_put_46 ?_
      refine lv_iload hx hb dX3_put_49 (lv_at hl 0 rfl) ?_
      refine lv_isub hx hb dX3_put_51 ?_
      refine s_eqi (y := nI (cn - plc cn rs a)) (pk_sub hq) ?_
      refine s_cVv (ws' := [(h, roE cn s0 l0 r0), (s0, arE ty 12 (f_X3_shift_s0 rs (plc cn rs a) (plc cn rs a + 1) (cn - plc cn rs a))), (l0, arE ty 12 (f_X3_shift_l0 rl (plc cn rs a) (plc cn rs a + 1) (cn - plc cn rs a))), (r0, arE ty 12 (f_X3_shift_r0 rr (plc cn rs a) (plc cn rs a + 1) (cn - plc cn rs a)))]) C hK hA X (c_X3_shift l D ty h s0 l0 r0 cn rs rl rr (plc cn rs a) (plc cn rs a + 1) (cn - plc cn rs a) (by omega) (by omega)) [0, 1, 2, 3] (pk_c rfl (pk_c rfl (pk_c rfl (pk_c rfl pk_n)))) rfl (pk_c rfl (pk_c rfl (pk_c rfl (pk_c rfl pk_n)))) (em_t (em_t (em_t (em_t em_n)))) rfl ml_X3_shift wm_X3_46 (q0 := 0) rfl rfl rfl ⟨Nat.le_of_ble_eq_true rfl, Nat.le_of_ble_eq_true rfl⟩ ⟨Nat.zero_le _, Nat.zero_le _⟩ hl.1 rfl (Nat.le_of_ble_eq_true rfl) dX3_put_52 (fun H locs X => ?_)
      refine lv_aload_n hx hb dX3_put_55 rfl (lv_at hl 1 rfl) ?_
      refine lv_iload hx hb dX3_put_56 (lv_at hl 0 rfl) ?_
      refine lv_iload_n hx hb dX3_put_58 rfl (lv_at hl 2 rfl) ?_
      refine lv_iload_n hx hb dX3_put_59 rfl (lv_at hl 3 rfl) ?_
      refine lv_iload_n hx hb dX3_put_60 rfl (lv_at hl 4 rfl) ?_
      refine s_cVv (ws' := [(h, roE cn s0 l0 r0), (s0, arE ty 12 (v_X3_put_1 cn rs a)), (l0, arE ty 12 (v_X3_put_2 cn rs rl a b)), (r0, arE ty 12 (v_X3_put_3 cn rs rr a c_))]) C hK hA X (c_X3_setRow l D ty h s0 l0 r0 cn (f_X3_shift_s0 rs (plc cn rs a) (plc cn rs a + 1) (cn - plc cn rs a)) (f_X3_shift_l0 rl (plc cn rs a) (plc cn rs a + 1) (cn - plc cn rs a)) (f_X3_shift_r0 rr (plc cn rs a) (plc cn rs a + 1) (cn - plc cn rs a)) (plc cn rs a) a b c_ (by omega)) [0, 1, 2, 3] (pk_c rfl (pk_c rfl (pk_c rfl (pk_c rfl pk_n)))) rfl (pk_c rfl (pk_c rfl (pk_c rfl (pk_c rfl pk_n)))) (em_t (em_t (em_t (em_t em_n)))) rfl ml_X3_setRow wm_X3_21 (q0 := 0) rfl rfl rfl ⟨Nat.le_of_ble_eq_true rfl, Nat.le_of_ble_eq_true rfl⟩ ⟨Nat.zero_le _, Nat.zero_le _⟩ hl.1 rfl (Nat.le_of_ble_eq_true rfl) dX3_put_61 (fun H locs X => ?_)
      refine lv_aload_n hx hb dX3_put_64 rfl (lv_at hl 1 rfl) ?_
      refine lv_dup hx hb dX3_put_65 rfl ?_
      refine get_ro_3 C hK X 0 rfl fl_X3_25 dX3_put_66 ?_
      refine lv_iconst (v := 1) hx hb dX3_put_69 (by decide) ?_
      refine lv_iadd hx hb dX3_put_70 ?_
      refine s_eqi (y := nI (cn + 1)) (nI_1 cn) ?_
      refine put_ro_3 C hK X 0 rfl pl_X3_25 rfl dX3_put_71 (fun H locs X => ?_)
      have X : Wd D A s.heap [(h, roE (cn + 1) s0 l0 r0), (s0, arE ty 12 (v_X3_put_1 cn rs a)), (l0, arE ty 12 (v_X3_put_2 cn rs rl a b)), (r0, arE ty 12 (v_X3_put_3 cn rs rr a c_))] H locs := X
      have e_0_0 : (f_X3_put_h_cn cn rs a) = (cn + 1) := by first | (rw [f_X3_put_h_cn, if_pos c0_0, if_neg c1_1]; done) | (rw [f_X3_put_h_cn, if_pos c0_0, if_neg c1_1]; rfl) | (simp only [f_X3_put_h_cn, if_pos c0_0, if_neg c1_1]; done)
      have e_1_1 : (f_X3_put_s0 cn rs a) = (v_X3_put_1 cn rs a) := by first | (rw [f_X3_put_s0, if_pos c0_0, if_neg c1_1]; done) | (rw [f_X3_put_s0, if_pos c0_0, if_neg c1_1]; rfl) | (simp only [f_X3_put_s0, if_pos c0_0, if_neg c1_1]; done)
      have e_2_1 : (f_X3_put_l0 cn rs rl a b) = (v_X3_put_2 cn rs rl a b) := by first | (rw [f_X3_put_l0, if_pos c0_0, if_neg c1_1]; done) | (rw [f_X3_put_l0, if_pos c0_0, if_neg c1_1]; rfl) | (simp only [f_X3_put_l0, if_pos c0_0, if_neg c1_1]; done)
      have e_3_1 : (f_X3_put_r0 cn rs rr a c_) = (v_X3_put_3 cn rs rr a c_) := by first | (rw [f_X3_put_r0, if_pos c0_0, if_neg c1_1]; done) | (rw [f_X3_put_r0, if_pos c0_0, if_neg c1_1]; rfl) | (simp only [f_X3_put_r0, if_pos c0_0, if_neg c1_1]; done)
      exact hret _ _ _ _ _ dX3_put_74 X (by rw [e_0_0, e_1_1, e_2_1, e_3_1])
  · refine lv_aload_n hx hb dX3_put_17 rfl (lv_at hl 1 rfl) ?_
    refine lv_iload hx hb dX3_put_18 (lv_at hl 0 rfl) ?_
    refine lv_iload_n hx hb dX3_put_20 rfl (lv_at hl 2 rfl) ?_
    refine lv_iload_n hx hb dX3_put_21 rfl (lv_at hl 3 rfl) ?_
    refine lv_iload_n hx hb dX3_put_22 rfl (lv_at hl 4 rfl) ?_
    refine s_cVv (ws' := [(h, roE cn s0 l0 r0), (s0, arE ty 12 (f_X3_setRow_s0 rs (plc cn rs a) a)), (l0, arE ty 12 (f_X3_setRow_l0 rl (plc cn rs a) b)), (r0, arE ty 12 (f_X3_setRow_r0 rr (plc cn rs a) c_))]) C hK hA X (c_X3_setRow l D ty h s0 l0 r0 cn rs rl rr (plc cn rs a) a b c_ (by have := (nI_ltI (a := plc cn rs a) (b := cn) (by omega) (by omega)).mp (isStart_lt c0_0); omega)) [0, 1, 2, 3] (pk_c rfl (pk_c rfl (pk_c rfl (pk_c rfl pk_n)))) rfl (pk_c rfl (pk_c rfl (pk_c rfl (pk_c rfl pk_n)))) (em_t (em_t (em_t (em_t em_n)))) rfl ml_X3_setRow wm_X3_21 (q0 := 0) rfl rfl rfl ⟨Nat.le_of_ble_eq_true rfl, Nat.le_of_ble_eq_true rfl⟩ ⟨Nat.zero_le _, Nat.zero_le _⟩ hl.1 rfl (Nat.le_of_ble_eq_true rfl) dX3_put_23 (fun H locs X => ?_)
    refine lv_goto (tgt := 74) hx hb dX3_put_26 (by decide) ?_
    have e_0_0 : (f_X3_put_h_cn cn rs a) = cn := by first | (rw [f_X3_put_h_cn, if_neg c0_0]; done) | (rw [f_X3_put_h_cn, if_neg c0_0]; rfl) | (simp only [f_X3_put_h_cn, if_neg c0_0]; done)
    have e_1_1 : (f_X3_put_s0 cn rs a) = (f_X3_setRow_s0 rs (plc cn rs a) a) := by first | (rw [f_X3_put_s0, if_neg c0_0]; done) | (rw [f_X3_put_s0, if_neg c0_0]; rfl) | (simp only [f_X3_put_s0, if_neg c0_0]; done)
    have e_2_1 : (f_X3_put_l0 cn rs rl a b) = (f_X3_setRow_l0 rl (plc cn rs a) b) := by first | (rw [f_X3_put_l0, if_neg c0_0]; done) | (rw [f_X3_put_l0, if_neg c0_0]; rfl) | (simp only [f_X3_put_l0, if_neg c0_0]; done)
    have e_3_1 : (f_X3_put_r0 cn rs rr a c_) = (f_X3_setRow_r0 rr (plc cn rs a) c_) := by first | (rw [f_X3_put_r0, if_neg c0_0]; done) | (rw [f_X3_put_r0, if_neg c0_0]; rfl) | (simp only [f_X3_put_r0, if_neg c0_0]; done)
    exact hret _ _ _ _ _ dX3_put_74 X (by rw [e_0_0, e_1_1, e_2_1, e_3_1])
def f_X3_dropPassed_h_cn (cn : Nat) (rs : F1) (X_ : Int32) : Nat := (if (nI (prs cn rs X_)) ≤ 0 then cn else (cn - prs cn rs X_))
def f_X3_dropPassed_s0 (cn : Nat) (rs : F1) (X_ : Int32) : F1 := (if (nI (prs cn rs X_)) ≤ 0 then rs else (f_X3_shift_s0 rs (prs cn rs X_) 0 (cn - prs cn rs X_)))
def f_X3_dropPassed_l0 (cn : Nat) (rs : F1) (rl : F1) (X_ : Int32) : F1 := (if (nI (prs cn rs X_)) ≤ 0 then rl else (f_X3_shift_l0 rl (prs cn rs X_) 0 (cn - prs cn rs X_)))
def f_X3_dropPassed_r0 (cn : Nat) (rs : F1) (rr : F1) (X_ : Int32) : F1 := (if (nI (prs cn rs X_)) ≤ 0 then rr else (f_X3_shift_r0 rr (prs cn rs X_) 0 (cn - prs cn rs X_)))
theorem ok_X3_dropPassed_h (cn : Nat) (rs : F1) (X_ : Int32) (hd : rdOK cn) : rdOK (f_X3_dropPassed_h_cn cn rs X_) := by unfold f_X3_dropPassed_h_cn rdOK; have h1 : 1 ≤ cn := hd.1; have h2 : cn ≤ 12 := hd.2; have := prs_lt (rs := rs) (X := X_) h1; split <;> omega
set_option maxHeartbeats 4000000 in
set_option maxRecDepth 100000 in
theorem c_X3_dropPassed (l : Launch) (D : va_G) (ty : Nat → ClassId) (h : Nat) (s0 : Nat) (l0 : Nat) (r0 : Nat) (cn : Nat) (rs : F1) (rl : F1) (rr : F1) (X_ : Int32) (hd : rdOK cn) : MC l D ty yX3_dropPassed cX3_dropPassed 3 none 2 [.ref h, .int X_] [(h, roE cn s0 l0 r0), (s0, arE ty 12 rs), (l0, arE ty 12 rl), (r0, arE ty 12 rr)] none [(h, roE (f_X3_dropPassed_h_cn cn rs X_) s0 l0 r0), (s0, arE ty 12 (f_X3_dropPassed_s0 cn rs X_)), (l0, arE ty 12 (f_X3_dropPassed_l0 cn rs rl X_)), (r0, arE ty 12 (f_X3_dropPassed_r0 cn rs rr X_))] := by
  refine mc_v (by decide +kernel) (Nat.le_of_ble_eq_true rfl) ?_
  intro p e s m args below meth c A Q ls C hK hA X hret hl
  have hx := C.1
  have hb := C.2.1
  have hl : lv_has ls 3 [(0, .ref h), (1, .int X_)] := hl
  have X : Wd D A s.heap [(h, roE cn s0 l0 r0), (s0, arE ty 12 rs), (l0, arE ty 12 rl), (r0, arE ty 12 rr)] s.heap [] := X
  have h1 : 1 ≤ cn := hd.1
  have hc : cn ≤ 12 := hd.2
  have hq : prs cn rs X_ < cn := prs_lt h1
  refine lv_aload_n hx hb dX3_dropPassed_0 rfl (lv_at hl 0 rfl) ?_
  refine lv_iload_n hx hb dX3_dropPassed_1 rfl (lv_at hl 1 rfl) ?_
  refine s_cV0i C hK hA X (c_X3_present l D ty h s0 l0 r0 cn rs rl rr X_ hd) [0, 1, 2, 3] (pk_c rfl (pk_c rfl (pk_c rfl (pk_c rfl pk_n)))) rfl ml_X3_present wm_X3_35 (q0 := 0) rfl rfl rfl ⟨Nat.le_of_ble_eq_true rfl, Nat.le_of_ble_eq_true rfl⟩ ⟨Nat.zero_le _, Nat.zero_le _⟩ hl.1 rfl (Nat.le_of_ble_eq_true rfl) dX3_dropPassed_2 (fun H locs X => ?_)
  refine lv_istore_n (lv' := [(2, .int (nI (prs cn rs X_))), (0, .ref h), (1, .int X_)]) hx hb dX3_dropPassed_5 rfl hl (by decide) rfl (fun ls hl => ?_)
  refine lv_iload_n hx hb dX3_dropPassed_6 rfl (lv_at hl 0 rfl) ?_
  refine lv_if_le (tgt := 32) hx hb dX3_dropPassed_7 (by decide) (fun c0_0 => ?_) (fun c0_0 => ?_)
  · have e_0_0 : (f_X3_dropPassed_h_cn cn rs X_) = cn := by first | (rw [f_X3_dropPassed_h_cn, if_pos c0_0]; done) | (rw [f_X3_dropPassed_h_cn, if_pos c0_0]; rfl) | (simp only [f_X3_dropPassed_h_cn, if_pos c0_0]; done)
    have e_1_1 : (f_X3_dropPassed_s0 cn rs X_) = rs := by first | (rw [f_X3_dropPassed_s0, if_pos c0_0]; done) | (rw [f_X3_dropPassed_s0, if_pos c0_0]; rfl) | (simp only [f_X3_dropPassed_s0, if_pos c0_0]; done)
    have e_2_1 : (f_X3_dropPassed_l0 cn rs rl X_) = rl := by first | (rw [f_X3_dropPassed_l0, if_pos c0_0]; done) | (rw [f_X3_dropPassed_l0, if_pos c0_0]; rfl) | (simp only [f_X3_dropPassed_l0, if_pos c0_0]; done)
    have e_3_1 : (f_X3_dropPassed_r0 cn rs rr X_) = rr := by first | (rw [f_X3_dropPassed_r0, if_pos c0_0]; done) | (rw [f_X3_dropPassed_r0, if_pos c0_0]; rfl) | (simp only [f_X3_dropPassed_r0, if_pos c0_0]; done)
    exact hret _ _ _ _ _ dX3_dropPassed_32 X (by rw [e_0_0, e_1_1, e_2_1, e_3_1])
  · refine lv_aload_n hx hb dX3_dropPassed_10 rfl (lv_at hl 1 rfl) ?_
    refine lv_iload_n hx hb dX3_dropPassed_11 rfl (lv_at hl 0 rfl) ?_
    refine lv_iconst (v := 0) hx hb dX3_dropPassed_12 (by decide) ?_
    refine lv_aload_n hx hb dX3_dropPassed_13 rfl (lv_at hl 1 rfl) ?_
    refine get_ro_3 C hK X 0 rfl fl_X3_25 dX3_dropPassed_14 ?_
    refine lv_iload_n hx hb dX3_dropPassed_17 rfl (lv_at hl 0 rfl) ?_
    refine lv_isub hx hb dX3_dropPassed_18 ?_
    refine s_eqi (y := nI (cn - prs cn rs X_)) (pk_sub (Nat.le_of_lt hq)) ?_
    refine s_cVv (ws' := [(h, roE cn s0 l0 r0), (s0, arE ty 12 (f_X3_shift_s0 rs (prs cn rs X_) 0 (cn - prs cn rs X_))), (l0, arE ty 12 (f_X3_shift_l0 rl (prs cn rs X_) 0 (cn - prs cn rs X_))), (r0, arE ty 12 (f_X3_shift_r0 rr (prs cn rs X_) 0 (cn - prs cn rs X_)))]) C hK hA X (c_X3_shift l D ty h s0 l0 r0 cn rs rl rr (prs cn rs X_) 0 (cn - prs cn rs X_) (by omega) (by omega)) [0, 1, 2, 3] (pk_c rfl (pk_c rfl (pk_c rfl (pk_c rfl pk_n)))) rfl (pk_c rfl (pk_c rfl (pk_c rfl (pk_c rfl pk_n)))) (em_t (em_t (em_t (em_t em_n)))) rfl ml_X3_shift wm_X3_46 (q0 := 0) rfl rfl rfl ⟨Nat.le_of_ble_eq_true rfl, Nat.le_of_ble_eq_true rfl⟩ ⟨Nat.zero_le _, Nat.zero_le _⟩ hl.1 rfl (Nat.le_of_ble_eq_true rfl) dX3_dropPassed_19 (fun H locs X => ?_)
    refine lv_aload_n hx hb dX3_dropPassed_22 rfl (lv_at hl 1 rfl) ?_
    refine lv_dup hx hb dX3_dropPassed_23 rfl ?_
    refine get_ro_3 C hK X 0 rfl fl_X3_25 dX3_dropPassed_24 ?_
    refine lv_iload_n hx hb dX3_dropPassed_27 rfl (lv_at hl 0 rfl) ?_
    refine lv_isub hx hb dX3_dropPassed_28 ?_
    refine s_eqi (y := nI (cn - prs cn rs X_)) (pk_sub (Nat.le_of_lt hq)) ?_
    refine put_ro_3 C hK X 0 rfl pl_X3_25 rfl dX3_dropPassed_29 (fun H locs X => ?_)
    have X : Wd D A s.heap [(h, roE (cn - prs cn rs X_) s0 l0 r0), (s0, arE ty 12 (f_X3_shift_s0 rs (prs cn rs X_) 0 (cn - prs cn rs X_))), (l0, arE ty 12 (f_X3_shift_l0 rl (prs cn rs X_) 0 (cn - prs cn rs X_))), (r0, arE ty 12 (f_X3_shift_r0 rr (prs cn rs X_) 0 (cn - prs cn rs X_)))] H locs := X
    have e_0_0 : (f_X3_dropPassed_h_cn cn rs X_) = (cn - prs cn rs X_) := by first | (rw [f_X3_dropPassed_h_cn, if_neg c0_0]; done) | (rw [f_X3_dropPassed_h_cn, if_neg c0_0]; rfl) | (simp only [f_X3_dropPassed_h_cn, if_neg c0_0]; done)
    have e_1_1 : (f_X3_dropPassed_s0 cn rs X_) = (f_X3_shift_s0 rs (prs cn rs X_) 0 (cn - prs cn rs X_)) := by first | (rw [f_X3_dropPassed_s0, if_neg c0_0]; done) | (rw [f_X3_dropPassed_s0, if_neg c0_0]; rfl) | (simp only [f_X3_dropPassed_s0, if_neg c0_0]; done)
    have e_2_1 : (f_X3_dropPassed_l0 cn rs rl X_) = (f_X3_shift_l0 rl (prs cn rs X_) 0 (cn - prs cn rs X_)) := by first | (rw [f_X3_dropPassed_l0, if_neg c0_0]; done) | (rw [f_X3_dropPassed_l0, if_neg c0_0]; rfl) | (simp only [f_X3_dropPassed_l0, if_neg c0_0]; done)
    have e_3_1 : (f_X3_dropPassed_r0 cn rs rr X_) = (f_X3_shift_r0 rr (prs cn rs X_) 0 (cn - prs cn rs X_)) := by first | (rw [f_X3_dropPassed_r0, if_neg c0_0]; done) | (rw [f_X3_dropPassed_r0, if_neg c0_0]; rfl) | (simp only [f_X3_dropPassed_r0, if_neg c0_0]; done)
    exact hret _ _ _ _ _ dX3_dropPassed_32 X (by rw [e_0_0, e_1_1, e_2_1, e_3_1])
def f_X3_value (rs : F1) (rl : F1) (rr : F1) (ix : Nat) (wt : Int32) : Int32 := (if wt = 0 then (rs ix) else (if wt = 1 then (rl ix) else (rr ix)))
set_option maxHeartbeats 4000000 in
set_option maxRecDepth 100000 in
theorem c_X3_value (l : Launch) (D : va_G) (ty : Nat → ClassId) (h : Nat) (s0 : Nat) (l0 : Nat) (r0 : Nat) (cn : Nat) (rs : F1) (rl : F1) (rr : F1) (ix : Nat) (wt : Int32) (hix : ix < 12) : MC l D ty yX3_value cX3_value 3 (some .int) 0 [.ref h, .int (nI ix), .int wt] [(h, roE cn s0 l0 r0), (s0, arE ty 12 rs), (l0, arE ty 12 rl), (r0, arE ty 12 rr)] (some (.int (f_X3_value rs rl rr ix wt))) [(h, roE cn s0 l0 r0), (s0, arE ty 12 rs), (l0, arE ty 12 rl), (r0, arE ty 12 rr)] := by
  refine mc_i (by decide +kernel) (Nat.le_of_ble_eq_true rfl) ?_
  intro p e s m args below meth c A Q ls C hK hA X hret hl
  have hx := C.1
  have hb := C.2.1
  have hl : lv_has ls 3 [(0, .ref h), (1, .int (nI ix)), (2, .int wt)] := hl
  have X : Wd D A s.heap [(h, roE cn s0 l0 r0), (s0, arE ty 12 rs), (l0, arE ty 12 rl), (r0, arE ty 12 rr)] s.heap [] := X
  refine lv_iload_n hx hb dX3_value_0 rfl (lv_at hl 2 rfl) ?_
  by_cases c0_0 : wt = 0
  · refine lv_lookup (off := 27) (tgt := 28) hx hb dX3_value_1 (by decide) (by rw [c0_0]; rfl) (by decide) ?_
    refine lv_aload_n hx hb dX3_value_28 rfl (lv_at hl 0 rfl) ?_
    refine get_ro_0 C hK X 0 rfl fl_X3_11 dX3_value_29 ?_
    refine lv_iload_n hx hb dX3_value_32 rfl (lv_at hl 1 rfl) ?_
    refine s_ialN C hK X 1 ix rfl rfl hix (by decide) dX3_value_33 ?_
    exact hret _ _ _ _ _ _ dX3_value_34 X rfl (by first | (rw [f_X3_value, if_pos c0_0]; done) | (rw [f_X3_value, if_pos c0_0]; rfl) | (simp only [f_X3_value, if_pos c0_0]; done))
  · by_cases c1_1 : wt = 1
    · refine lv_lookup (off := 34) (tgt := 35) hx hb dX3_value_1 (by decide) (by rw [c1_1]; rfl) (by decide) ?_
      refine lv_aload_n hx hb dX3_value_35 rfl (lv_at hl 0 rfl) ?_
      refine get_ro_1 C hK X 0 rfl fl_X3_15 dX3_value_36 ?_
      refine lv_iload_n hx hb dX3_value_39 rfl (lv_at hl 1 rfl) ?_
      refine s_ialN C hK X 2 ix rfl rfl hix (by decide) dX3_value_40 ?_
      exact hret _ _ _ _ _ _ dX3_value_41 X rfl (by first | (rw [f_X3_value, if_neg c0_0, if_pos c1_1]; done) | (rw [f_X3_value, if_neg c0_0, if_pos c1_1]; rfl) | (simp only [f_X3_value, if_neg c0_0, if_pos c1_1]; done))
    · refine lv_lookup (off := 41) (tgt := 42) hx hb dX3_value_1 (by decide) (lk_out2 c0_0 c1_1) (by decide) ?_
      refine lv_aload_n hx hb dX3_value_42 rfl (lv_at hl 0 rfl) ?_
      refine get_ro_2 C hK X 0 rfl fl_X3_18 dX3_value_43 ?_
      refine lv_iload_n hx hb dX3_value_46 rfl (lv_at hl 1 rfl) ?_
      refine s_ialN C hK X 3 ix rfl rfl hix (by decide) dX3_value_47 ?_
      exact hret _ _ _ _ _ _ dX3_value_48 X rfl (by first | (rw [f_X3_value, if_neg c0_0, if_neg c1_1]; done) | (rw [f_X3_value, if_neg c0_0, if_neg c1_1]; rfl) | (simp only [f_X3_value, if_neg c0_0, if_neg c1_1]; done))
def mixRo (rs rl rr : F1) (h : Int64) : Nat → Int64
  | 0 => h
  | i + 1 => f_X6_mix (f_X6_mix (f_X6_mix (mixRo rs rl rr h i) (rs i)) (rl i)) (rr i)
def f_X3_mixInto (cn : Nat) (rs : F1) (rl : F1) (rr : F1) (hh : Int64) : Int64 := (mixRo rs rl rr (f_X6_mix hh (nI cn)) cn)
set_option maxHeartbeats 4000000 in
set_option maxRecDepth 100000 in
theorem c_X3_mixInto (l : Launch) (D : va_G) (ty : Nat → ClassId) (h : Nat) (s0 : Nat) (l0 : Nat) (r0 : Nat) (cn : Nat) (rs : F1) (rl : F1) (rr : F1) (hh : Int64) (hd : rdOK cn) : MC l D ty yX3_mixInto cX3_mixInto 6 (some .long) 1 [.ref h, .long hh] [(h, roE cn s0 l0 r0), (s0, arE ty 12 rs), (l0, arE ty 12 rl), (r0, arE ty 12 rr)] (some (.long (f_X3_mixInto cn rs rl rr hh))) [(h, roE cn s0 l0 r0), (s0, arE ty 12 rs), (l0, arE ty 12 rl), (r0, arE ty 12 rr)] := by
  refine mc_l (by decide +kernel) (Nat.le_of_ble_eq_true rfl) ?_
  intro p e s m args below meth c A Q ls C hK hA X hret hl
  have hx := C.1
  have hb := C.2.1
  have hl : lv_has ls 6 [(0, .ref h), (1, .long hh)] := hl
  have X : Wd D A s.heap [(h, roE cn s0 l0 r0), (s0, arE ty 12 rs), (l0, arE ty 12 rl), (r0, arE ty 12 rr)] s.heap [] := X
  have h1 : 1 ≤ cn := hd.1
  have hc : cn ≤ 12 := hd.2
  refine lv_lload_n hx hb dX3_mixInto_0 rfl (lv_at hl 1 rfl) ?_
  refine lv_aload_n hx hb dX3_mixInto_1 rfl (lv_at hl 0 rfl) ?_
  refine get_ro_3 C hK X 0 rfl fl_X3_25 dX3_mixInto_2 ?_
  refine s_cN0l C hK hA X (c_X6_mix l D ty hh (nI cn)) [] pk_n rfl sl_X6_mix nw_X3_50 ⟨Nat.le_of_ble_eq_true rfl, Nat.le_of_ble_eq_true rfl⟩ ⟨Nat.zero_le _, Nat.zero_le _⟩ hl.1 rfl (Nat.le_of_ble_eq_true rfl) dX3_mixInto_5 (fun H locs X => ?_)
  refine lv_lstore_n (lv' := [(3, .long (f_X6_mix hh (nI cn))), (0, .ref h), (1, .long hh)]) hx hb dX3_mixInto_8 rfl hl (by decide) rfl (fun ls hl => ?_)
  refine lv_iconst (v := 0) hx hb dX3_mixInto_9 (by decide) ?_
  refine lv_istore (lv' := [(5, .int 0), (3, .long (f_X6_mix hh (nI cn))), (0, .ref h), (1, .long hh)]) hx hb dX3_mixInto_10 hl (by decide) rfl (fun ls hl => ?_)
  have K1 : ∀ (y1_0 : Int32) (y1_1 : Int64) (ls : Array Slot) (H : Heap) (locs : List Loc), y1_0 = (nI cn) → y1_1 = (mixRo rs rl rr (f_X6_mix hh (nI cn)) cn) → lv_has ls 6 [(5, .int y1_0), (3, .long y1_1), (0, .ref h), (1, .long hh)] → Wd D A s.heap [(h, roE cn s0 l0 r0), (s0, arE ty 12 rs), (l0, arE ty 12 rl), (r0, arE ty 12 rr)] H locs → W p l e (rmD 1) s m args below meth c H locs 0 0 Q (F0 m 59 ls []) := by
    intro y1_0 y1_1 ls H locs ey1_0 ey1_1 hl X
    subst ey1_0; subst ey1_1
    refine lv_lload_n hx hb dX3_mixInto_59 rfl (lv_at hl 1 rfl) ?_
    exact hret _ _ _ _ _ _ dX3_mixInto_60 X rfl (by first | (rw [f_X3_mixInto]; done) | (rw [f_X3_mixInto]; rfl) | (simp only [f_X3_mixInto]; done))
  have L1 : ∀ (kf i : Nat) (y1_0 : Int32) (y1_1 : Int64) (ls : Array Slot) (H : Heap) (locs : List Loc), cn - i < kf → (i ≤ cn) → y1_0 = (nI i) → y1_1 = (mixRo rs rl rr (f_X6_mix hh (nI cn)) i) → lv_has ls 6 [(5, .int y1_0), (3, .long y1_1), (0, .ref h), (1, .long hh)] → Wd D A s.heap [(h, roE cn s0 l0 r0), (s0, arE ty 12 rs), (l0, arE ty 12 rl), (r0, arE ty 12 rr)] H locs → W p l e (rmD 1) s m args below meth c H locs 0 0 Q (F0 m 12 ls []) := by
    intro kf
    induction kf with
    | zero => intro i y1_0 y1_1 ls H locs hk; exact absurd hk (Nat.not_lt_zero _)
    | succ kf ih1 =>
      intro i y1_0 y1_1 ls H locs hk hI ey1_0 ey1_1 hl X
      subst ey1_0; subst ey1_1
      refine lv_iload hx hb dX3_mixInto_12 (lv_at hl 0 rfl) ?_
      refine lv_aload_n hx hb dX3_mixInto_14 rfl (lv_at hl 2 rfl) ?_
      refine get_ro_3 C hK X 0 rfl fl_X3_25 dX3_mixInto_15 ?_
      refine lv_icmp_ge (tgt := 59) hx hb dX3_mixInto_18 (by decide) (fun c0_0 => ?_) (fun c0_0 => ?_)
      · have hE : i = cn := eq_of_nIle (by omega) (by omega) hI c0_0
        exact K1 (nI i) (mixRo rs rl rr (f_X6_mix hh (nI cn)) i) _ _ _ (by rw [hE]) (by rw [hE]) (lv_sub hl [0, 1, 2, 3] rfl) X
      · have h1 : i < cn := lt_of_nnIle (by omega) (by omega) c0_0
        refine lv_lload_n hx hb dX3_mixInto_21 rfl (lv_at hl 1 rfl) ?_
        refine lv_aload_n hx hb dX3_mixInto_22 rfl (lv_at hl 2 rfl) ?_
        refine get_ro_0 C hK X 0 rfl fl_X3_11 dX3_mixInto_23 ?_
        refine lv_iload hx hb dX3_mixInto_26 (lv_at hl 0 rfl) ?_
        refine s_ialN C hK X 1 i rfl rfl (by omega) (by decide) dX3_mixInto_28 ?_
        refine s_cN0l C hK hA X (c_X6_mix l D ty (mixRo rs rl rr (f_X6_mix hh (nI cn)) i) (rs i)) [] pk_n rfl sl_X6_mix nw_X3_50 ⟨Nat.le_of_ble_eq_true rfl, Nat.le_of_ble_eq_true rfl⟩ ⟨Nat.zero_le _, Nat.zero_le _⟩ hl.1 rfl (Nat.le_of_ble_eq_true rfl) dX3_mixInto_29 (fun H locs X => ?_)
        refine lv_aload_n hx hb dX3_mixInto_32 rfl (lv_at hl 2 rfl) ?_
        refine get_ro_1 C hK X 0 rfl fl_X3_15 dX3_mixInto_33 ?_
        refine lv_iload hx hb dX3_mixInto_36 (lv_at hl 0 rfl) ?_
        refine s_ialN C hK X 2 i rfl rfl (by omega) (by decide) dX3_mixInto_38 ?_
        refine s_cN0l C hK hA X (c_X6_mix l D ty (f_X6_mix (mixRo rs rl rr (f_X6_mix hh (nI cn)) i) (rs i)) (rl i)) [] pk_n rfl sl_X6_mix nw_X3_50 ⟨Nat.le_of_ble_eq_true rfl, Nat.le_of_ble_eq_true rfl⟩ ⟨Nat.zero_le _, Nat.zero_le _⟩ hl.1 rfl (Nat.le_of_ble_eq_true rfl) dX3_mixInto_39 (fun H locs X => ?_)
        refine lv_aload_n hx hb dX3_mixInto_42 rfl (lv_at hl 2 rfl) ?_
        refine get_ro_2 C hK X 0 rfl fl_X3_18 dX3_mixInto_43 ?_
        refine lv_iload hx hb dX3_mixInto_46 (lv_at hl 0 rfl) ?_
        refine s_ialN C hK X 3 i rfl rfl (by omega) (by decide) dX3_mixInto_48 ?_
        refine s_cN0l C hK hA X (c_X6_mix l D ty (f_X6_mix (f_X6_mix (mixRo rs rl rr (f_X6_mix hh (nI cn)) i) (rs i)) (rl i)) (rr i)) [] pk_n rfl sl_X6_mix nw_X3_50 ⟨Nat.le_of_ble_eq_true rfl, Nat.le_of_ble_eq_true rfl⟩ ⟨Nat.zero_le _, Nat.zero_le _⟩ hl.1 rfl (Nat.le_of_ble_eq_true rfl) dX3_mixInto_49 (fun H locs X => ?_)
        refine lv_lstore_n (lv' := [(3, .long (f_X6_mix (f_X6_mix (f_X6_mix (mixRo rs rl rr (f_X6_mix hh (nI cn)) i) (rs i)) (rl i)) (rr i))), (5, .int (nI i)), (0, .ref h), (1, .long hh)]) hx hb dX3_mixInto_52 rfl hl (by decide) rfl (fun ls hl => ?_)
        refine lv_iinc (v := ((nI i) + 1)) (lv' := [(5, .int ((nI i) + 1)), (3, .long (f_X6_mix (f_X6_mix (f_X6_mix (mixRo rs rl rr (f_X6_mix hh (nI cn)) i) (rs i)) (rl i)) (rr i))), (0, .ref h), (1, .long hh)]) hx hb dX3_mixInto_53 hl (k := 1) rfl rfl (by decide) rfl (fun ls hl => ?_)
        refine lv_goto (tgt := 12) hx hb dX3_mixInto_56 (by decide) ?_
        exact ih1 (i + 1) ((nI i) + 1) (f_X6_mix (f_X6_mix (f_X6_mix (mixRo rs rl rr (f_X6_mix hh (nI cn)) i) (rs i)) (rl i)) (rr i)) _ _ _ (by omega) (by omega) (nI_1 i) rfl (lv_sub hl [0, 1, 2, 3] rfl) X
  exact L1 (cn + 1) 0 0 (f_X6_mix hh (nI cn)) _ _ _ (by omega) (Nat.zero_le _) rfl rfl (lv_sub hl [0, 1, 2, 3] rfl) X
