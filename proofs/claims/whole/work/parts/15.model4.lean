theorem cpy_step0 {f g : F1} {dp i : Nat} : upd (va_cpy f g 0 dp i) (dp + i) (f i) = va_cpy f g 0 dp (i + 1) := by
  rw [← cpy_step (sp := 0), Nat.zero_add]
theorem cpy_step00 {f g : F1} {i : Nat} : upd (va_cpy f g 0 0 i) i (f i) = va_cpy f g 0 0 (i + 1) := by
  have := cpy_step (f := f) (g := g) (sp := 0) (dp := 0) (i := i)
  rwa [Nat.zero_add] at this
theorem cpy_stepd {f g : F1} {sp i : Nat} : upd (va_cpy f g sp 0 i) i (f (sp + i)) = va_cpy f g sp 0 (i + 1) := by
  have := cpy_step (f := f) (g := g) (sp := sp) (dp := 0) (i := i)
  rwa [Nat.zero_add] at this
/-- how many states lie on the stack of the reference once there is room -/
def svM (sv : Nat) : Nat := if sv = 3 then 2 else sv
theorem svM_le {sv : Nat} (h : sv ≤ 3) : svM sv ≤ 2 := by unfold svM; split <;> omega
theorem svM_eq {g : F1} {sv : Nat} (hs : g 0 = nI sv) (h : sv ≤ 3) : (if nI sv = 3 then (upd g 0 2) else g) 0 = nI (svM sv) := by
  unfold svM
  by_cases c : sv = 3
  · subst c; rfl
  · rw [if_neg c, if_neg (fun e => c (by have := congrArg Int32.toInt e; rw [nI_toInt (by omega)] at this; simp at this; omega))]; exact hs
def v_X7_saves_2 (g : F1) (sv : Nat) : F1 := (if (nI sv) = 3 then (upd g 0 2) else g)
def v_X7_saves_3 (pa : F1) (sv : Nat) : F1 := (if (nI sv) = 3 then (va_cpy pa pa 253 0 506) else pa)
def f_X7_saves_o (g : F1) (sv : Nat) : F1 := (upd (v_X7_saves_2 g sv) 0 (nI (svM sv + 1)))
def f_X7_saves_b (n : F1) (pa : F1) (sv : Nat) : F1 := (va_cpy n (v_X7_saves_3 pa sv) 0 (253 * svM sv) 253)
set_option maxHeartbeats 4000000 in
set_option maxRecDepth 100000 in
theorem c_X7_saves (l : Launch) (D : va_G) (ty : Nat → ClassId) (o : Nat) (a : Nat) (b : Nat) (c_ : Nat) (g : F1) (hs : Int64) (n : F1) (pa : F1) (sv : Nat) (hs9 : g 0 = nI sv) (hsv : sv ≤ 3) : MC l D ty yX7_saves cX7_saves 2 none 0 [.ref o] [(o, moE g hs a b c_), (a, arE ty 253 n), (b, arE ty 759 pa)] none [(o, moE (f_X7_saves_o g sv) hs a b c_), (a, arE ty 253 n), (b, arE ty 759 (f_X7_saves_b n pa sv))] := by
  refine mc_v (by decide +kernel) (Nat.le_of_ble_eq_true rfl) ?_
  intro p e s m args below meth c A Q ls C hK hA X hret hl
  have hx := C.1
  have hb := C.2.1
  have hl : lv_has ls 2 [(0, .ref o)] := hl
  have X : Wd D A s.heap [(o, moE g hs a b c_), (a, arE ty 253 n), (b, arE ty 759 pa)] s.heap [] := X
  have hm := svM_le hsv
  refine lv_aload_n hx hb dX7_saves_0 rfl (lv_at hl 0 rfl) ?_
  refine get_mo_3 C hK X 0 rfl fl_X7_26 dX7_saves_1 ?_
  refine s_eqi (y := nI sv) (hs9) ?_
  refine lv_iconst (v := 3) hx hb dX7_saves_4 (by decide) ?_
  have J49_4 : ∀ (x2 : F1) (x3 : F1) (ls : Array Slot) (H : Heap) (locs : List Loc), x2 = (v_X7_saves_2 g sv) → x3 = (v_X7_saves_3 pa sv) → lv_has ls 2 [(0, .ref o)] → Wd D A s.heap [(o, moE x2 hs a b c_), (a, arE ty 253 n), (b, arE ty 759 x3)] H locs → W p l e (rmD 0) s m args below meth c H locs 0 0 Q (F0 m 49 ls []) := by
    intro x2 x3 ls H locs ex2 ex3 hl X
    replace ex2 := ex2.symm; subst ex2; replace ex3 := ex3.symm; subst ex3
    refine lv_iconst (v := 0) hx hb dX7_saves_49 (by decide) ?_
    refine lv_istore_n (lv' := [(1, .int 0), (0, .ref o)]) hx hb dX7_saves_50 rfl hl (by decide) rfl (fun ls hl => ?_)
    have K5 : ∀ (y5_0 : Int32) (y5_1 : F1) (ls : Array Slot) (H : Heap) (locs : List Loc), y5_0 = 253 → y5_1 = (va_cpy n (v_X7_saves_3 pa sv) 0 (253 * svM sv) 253) → lv_has ls 2 [(1, .int y5_0), (0, .ref o)] → Wd D A s.heap [(o, moE (v_X7_saves_2 g sv) hs a b c_), (a, arE ty 253 n), (b, arE ty 759 y5_1)] H locs → W p l e (rmD 0) s m args below meth c H locs 0 0 Q (F0 m 85 ls []) := by
      intro y5_0 y5_1 ls H locs ey5_0 ey5_1 hl X
      replace ey5_0 := ey5_0.symm; subst ey5_0; replace ey5_1 := ey5_1.symm; subst ey5_1
      refine lv_aload_n hx hb dX7_saves_85 rfl (lv_at hl 1 rfl) ?_
      refine lv_dup hx hb dX7_saves_86 rfl ?_
      refine get_mo_3 C hK X 0 rfl fl_X7_26 dX7_saves_87 ?_
      refine s_eqi (y := nI (svM sv)) (svM_eq hs9 hsv) ?_
      refine lv_iconst (v := 1) hx hb dX7_saves_90 (by decide) ?_
      refine lv_iadd hx hb dX7_saves_91 ?_
      refine s_eqi (y := nI (svM sv + 1)) (nI_1 _) ?_
      refine put_mo_3 C hK X 0 rfl pl_X7_26 dX7_saves_92 (fun H locs X => ?_)
      have X : Wd D A s.heap [(o, moE (upd (v_X7_saves_2 g sv) 0 (nI (svM sv + 1))) hs a b c_), (a, arE ty 253 n), (b, arE ty 759 (va_cpy n (v_X7_saves_3 pa sv) 0 (253 * svM sv) 253))] H locs := X
      have e_0_0 : (f_X7_saves_o g sv) = (upd (v_X7_saves_2 g sv) 0 (nI (svM sv + 1))) := by first | (rw [f_X7_saves_o]; done) | (rw [f_X7_saves_o]; rfl) | (simp only [f_X7_saves_o]; done)
      have e_2_1 : (f_X7_saves_b n pa sv) = (va_cpy n (v_X7_saves_3 pa sv) 0 (253 * svM sv) 253) := by first | (rw [f_X7_saves_b]; done) | (rw [f_X7_saves_b]; rfl) | (simp only [f_X7_saves_b]; done)
      exact hret _ _ _ _ _ dX7_saves_95 X (by rw [e_0_0, e_2_1])
    have L5 : ∀ (kf i : Nat) (y5_0 : Int32) (y5_1 : F1) (ls : Array Slot) (H : Heap) (locs : List Loc), 253 - i < kf → (i ≤ 253) → y5_0 = (nI i) → y5_1 = (va_cpy n (v_X7_saves_3 pa sv) 0 (253 * svM sv) i) → lv_has ls 2 [(1, .int y5_0), (0, .ref o)] → Wd D A s.heap [(o, moE (v_X7_saves_2 g sv) hs a b c_), (a, arE ty 253 n), (b, arE ty 759 y5_1)] H locs → W p l e (rmD 0) s m args below meth c H locs 0 0 Q (F0 m 51 ls []) := by
      intro kf
      induction kf with
      | zero => intro i y5_0 y5_1 ls H locs hk; exact absurd hk (Nat.not_lt_zero _)
      | succ kf ih5 =>
        intro i y5_0 y5_1 ls H locs hk hI ey5_0 ey5_1 hl X
        replace ey5_0 := ey5_0.symm; subst ey5_0; replace ey5_1 := ey5_1.symm; subst ey5_1
        refine lv_iload_n hx hb dX7_saves_51 rfl (lv_at hl 0 rfl) ?_
        refine lv_sipush (v := 253) hx hb dX7_saves_52 (by decide) ?_
        refine lv_icmp_ge (tgt := 85) hx hb dX7_saves_55 (by decide) (fun c0_0 => ?_) (fun c0_0 => ?_)
        · have hE : i = 253 := eq_of_nIle (a := 253) (by decide) (by omega) hI c0_0
          exact K5 (nI i) (va_cpy n (v_X7_saves_3 pa sv) 0 (253 * svM sv) i) _ _ _ (by rw [hE]; rfl) (by rw [hE]) (lv_sub hl [0, 1] rfl) X
        · have h1 : i < 253 := lt_of_nnIle (a := 253) (b := i) (by decide) (by omega) c0_0
          refine lv_aload_n hx hb dX7_saves_58 rfl (lv_at hl 1 rfl) ?_
          refine get_mo_1 C hK X 0 rfl fl_X7_13 dX7_saves_59 ?_
          refine lv_sipush (v := 253) hx hb dX7_saves_62 (by decide) ?_
          refine lv_aload_n hx hb dX7_saves_65 rfl (lv_at hl 1 rfl) ?_
          refine get_mo_3 C hK X 0 rfl fl_X7_26 dX7_saves_66 ?_
          refine s_eqi (y := nI (svM sv)) (svM_eq hs9 hsv) ?_
          refine lv_imul hx hb dX7_saves_69 ?_
          refine s_eqi (y := nI (253 * svM sv)) (pk_mul 253 _) ?_
          refine lv_iload_n hx hb dX7_saves_70 rfl (lv_at hl 0 rfl) ?_
          refine lv_iadd hx hb dX7_saves_71 ?_
          refine s_eqi (y := nI (253 * svM sv + i)) (nI_add _ _) ?_
          refine lv_aload_n hx hb dX7_saves_72 rfl (lv_at hl 1 rfl) ?_
          refine get_mo_0 C hK X 0 rfl fl_X7_7 dX7_saves_73 ?_
          refine lv_iload_n hx hb dX7_saves_76 rfl (lv_at hl 0 rfl) ?_
          refine s_ialN C hK X 1 i rfl rfl (by omega) (by decide) dX7_saves_77 ?_
          refine s_iasN C hK X 2 (253 * svM sv + i) rfl rfl (by omega) (by decide) dX7_saves_78 (fun H locs X => ?_)
          have X : Wd D A s.heap [(o, moE (v_X7_saves_2 g sv) hs a b c_), (a, arE ty 253 n), (b, arE ty 759 (upd (va_cpy n (v_X7_saves_3 pa sv) 0 (253 * svM sv) i) (253 * svM sv + i) (n i)))] H locs := X
          refine lv_iinc (v := ((nI i) + 1)) (lv' := [(1, .int ((nI i) + 1)), (0, .ref o)]) hx hb dX7_saves_79 hl (k := 0) rfl rfl (by decide) rfl (fun ls hl => ?_)
          refine lv_goto (tgt := 51) hx hb dX7_saves_82 (by decide) ?_
          have h1 : i < 253 := lt_of_nnIle (a := 253) (b := i) (by decide) (by omega) c0_0
          exact ih5 (i + 1) ((nI i) + 1) (upd (va_cpy n (v_X7_saves_3 pa sv) 0 (253 * svM sv) i) (253 * svM sv + i) (n i)) _ _ _ (by omega) (by omega) (nI_1 i) cpy_step0 (lv_sub hl [0, 1] rfl) X
    exact L5 (253 + 1) 0 0 (v_X7_saves_3 pa sv) _ _ _ (by omega) (Nat.zero_le _) rfl cpy_0.symm (lv_sub hl [0, 1] rfl) X
  refine lv_icmp_ne (tgt := 49) hx hb dX7_saves_5 (by decide) (fun c0_0 => ?_) (fun c0_0 => ?_)
  · exact J49_4 g pa _ _ _ (by first | (rw [v_X7_saves_2, if_neg c0_0]; done) | (rw [v_X7_saves_2, if_neg c0_0]; rfl) | (simp only [v_X7_saves_2, if_neg c0_0]; done)) (by first | (rw [v_X7_saves_3, if_neg c0_0]; done) | (rw [v_X7_saves_3, if_neg c0_0]; rfl) | (simp only [v_X7_saves_3, if_neg c0_0]; done)) (lv_sub hl [0] rfl) X
  · refine lv_iconst (v := 0) hx hb dX7_saves_8 (by decide) ?_
    refine lv_istore_n (lv' := [(1, .int 0), (0, .ref o)]) hx hb dX7_saves_9 rfl hl (by decide) rfl (fun ls hl => ?_)
    have K1 : ∀ (y1_0 : Int32) (y1_1 : F1) (ls : Array Slot) (H : Heap) (locs : List Loc), y1_0 = 506 → y1_1 = (va_cpy pa pa 253 0 506) → lv_has ls 2 [(1, .int y1_0), (0, .ref o)] → Wd D A s.heap [(o, moE g hs a b c_), (a, arE ty 253 n), (b, arE ty 759 y1_1)] H locs → W p l e (rmD 0) s m args below meth c H locs 0 0 Q (F0 m 39 ls []) := by
      intro y1_0 y1_1 ls H locs ey1_0 ey1_1 hl X
      replace ey1_0 := ey1_0.symm; subst ey1_0; replace ey1_1 := ey1_1.symm; subst ey1_1
      refine lv_aload_n hx hb dX7_saves_39 rfl (lv_at hl 1 rfl) ?_
      refine lv_dup hx hb dX7_saves_40 rfl ?_
      refine get_mo_3 C hK X 0 rfl fl_X7_26 dX7_saves_41 ?_
      refine s_eqi (y := 3) (hs9.trans c0_0) ?_
      refine lv_iconst (v := 1) hx hb dX7_saves_44 (by decide) ?_
      refine lv_isub hx hb dX7_saves_45 ?_
      refine s_eqi (y := 2) (by decide) ?_
      refine s_eqi (y := 2) (by decide) ?_
      refine put_mo_3 C hK X 0 rfl pl_X7_26 dX7_saves_46 (fun H locs X => ?_)
      have X : Wd D A s.heap [(o, moE (upd g 0 2) hs a b c_), (a, arE ty 253 n), (b, arE ty 759 (va_cpy pa pa 253 0 506))] H locs := X
      exact J49_4 (upd g 0 2) (va_cpy pa pa 253 0 506) _ _ _ (by first | (rw [v_X7_saves_2, if_pos c0_0]; done) | (rw [v_X7_saves_2, if_pos c0_0]; rfl) | (simp only [v_X7_saves_2, if_pos c0_0]; done)) (by first | (rw [v_X7_saves_3, if_pos c0_0]; done) | (rw [v_X7_saves_3, if_pos c0_0]; rfl) | (simp only [v_X7_saves_3, if_pos c0_0]; done)) (lv_sub hl [1] rfl) X
    have L1 : ∀ (kf i : Nat) (y1_0 : Int32) (y1_1 : F1) (ls : Array Slot) (H : Heap) (locs : List Loc), 506 - i < kf → (i ≤ 506) → y1_0 = (nI i) → y1_1 = (va_cpy pa pa 253 0 i) → lv_has ls 2 [(1, .int y1_0), (0, .ref o)] → Wd D A s.heap [(o, moE g hs a b c_), (a, arE ty 253 n), (b, arE ty 759 y1_1)] H locs → W p l e (rmD 0) s m args below meth c H locs 0 0 Q (F0 m 10 ls []) := by
      intro kf
      induction kf with
      | zero => intro i y1_0 y1_1 ls H locs hk; exact absurd hk (Nat.not_lt_zero _)
      | succ kf ih1 =>
        intro i y1_0 y1_1 ls H locs hk hI ey1_0 ey1_1 hl X
        replace ey1_0 := ey1_0.symm; subst ey1_0; replace ey1_1 := ey1_1.symm; subst ey1_1
        refine lv_iload_n hx hb dX7_saves_10 rfl (lv_at hl 0 rfl) ?_
        refine lv_sipush (v := 506) hx hb dX7_saves_11 (by decide) ?_
        refine lv_icmp_ge (tgt := 39) hx hb dX7_saves_14 (by decide) (fun c1_1 => ?_) (fun c1_1 => ?_)
        · have hE : i = 506 := eq_of_nIle (a := 506) (by decide) (by omega) hI c1_1
          exact K1 (nI i) (va_cpy pa pa 253 0 i) _ _ _ (by rw [hE]; rfl) (by rw [hE]) (lv_sub hl [0, 1] rfl) X
        · have h1 : i < 506 := lt_of_nnIle (a := 506) (b := i) (by decide) (by omega) c1_1
          refine lv_aload_n hx hb dX7_saves_17 rfl (lv_at hl 1 rfl) ?_
          refine get_mo_1 C hK X 0 rfl fl_X7_13 dX7_saves_18 ?_
          refine lv_iload_n hx hb dX7_saves_21 rfl (lv_at hl 0 rfl) ?_
          refine lv_aload_n hx hb dX7_saves_22 rfl (lv_at hl 1 rfl) ?_
          refine get_mo_1 C hK X 0 rfl fl_X7_13 dX7_saves_23 ?_
          refine lv_iload_n hx hb dX7_saves_26 rfl (lv_at hl 0 rfl) ?_
          refine lv_sipush (v := 253) hx hb dX7_saves_27 (by decide) ?_
          refine lv_iadd hx hb dX7_saves_30 ?_
          refine s_eqi (y := nI (253 + i)) (by rw [show (253 : Int32) = nI 253 from rfl, nI_add, Nat.add_comm]) ?_
          refine s_ialN C hK X 2 (253 + i) rfl rfl (by omega) (by decide) dX7_saves_31 ?_
          refine s_eqi (y := pa (253 + i)) (cpy_at (by omega)) ?_
          refine s_iasN C hK X 2 i rfl rfl (by omega) (by decide) dX7_saves_32 (fun H locs X => ?_)
          have X : Wd D A s.heap [(o, moE g hs a b c_), (a, arE ty 253 n), (b, arE ty 759 (upd (va_cpy pa pa 253 0 i) i (pa (253 + i))))] H locs := X
          refine lv_iinc (v := ((nI i) + 1)) (lv' := [(1, .int ((nI i) + 1)), (0, .ref o)]) hx hb dX7_saves_33 hl (k := 0) rfl rfl (by decide) rfl (fun ls hl => ?_)
          refine lv_goto (tgt := 10) hx hb dX7_saves_36 (by decide) ?_
          have h1 : i < 506 := lt_of_nnIle (a := 506) (b := i) (by decide) (by omega) c1_1
          exact ih1 (i + 1) ((nI i) + 1) (upd (va_cpy pa pa 253 0 i) i (pa (253 + i))) _ _ _ (by omega) (by omega) (nI_1 i) cpy_stepd (lv_sub hl [0, 1] rfl) X
    exact L1 (506 + 1) 0 0 pa _ _ _ (by omega) (Nat.zero_le _) rfl cpy_0.symm (lv_sub hl [0, 1] rfl) X
def f_X7_undo_ok_o (g : F1) (sv : Nat) : F1 := (upd (f_X7_refused_o g 0) 0 (nI (sv - 1)))
def f_X7_undo_ok_a (n : F1) (pa : F1) (sv : Nat) : F1 := (va_cpy pa n (253 * (sv - 1)) 0 253)
theorem undo_ok {n pa : F1} {sv : Nat} (hU : ∀ i, i < sv → MOK (fun k => pa (253 * i + k))) (h : 1 ≤ sv) : MOK (f_X7_undo_ok_a n pa sv) := by
  have h0 := hU (sv - 1) (by omega)
  have e : ∀ q, q < 253 → f_X7_undo_ok_a n pa sv q = pa (253 * (sv - 1) + q) := by
    intro q hq; unfold f_X7_undo_ok_a va_cpy; rw [if_pos (by omega), Nat.sub_zero]
  exact MOK_of h0 (e 74 (by omega)) (e 111 (by omega)) (e 132 (by omega)) (fun j hj => e _ (by omega))
theorem ok_X7_undo_ok_a (n : F1) (pa : F1) (sv : Nat) (hs1 : 1 ≤ sv) (hU : ∀ i, i < sv → MOK (fun k => pa (253 * i + k))) : MOK (f_X7_undo_ok_a n pa sv) := undo_ok hU hs1
set_option maxHeartbeats 4000000 in
set_option maxRecDepth 100000 in
theorem c_X7_undo_ok (l : Launch) (D : va_G) (ty : Nat → ClassId) (o : Nat) (a : Nat) (b : Nat) (c_ : Nat) (g : F1) (hs : Int64) (n : F1) (pa : F1) (sv : Nat) (hs9 : g 0 = nI sv) (hsv : sv ≤ 3) (hs1 : 1 ≤ sv) (hU : ∀ i, i < sv → MOK (fun k => pa (253 * i + k))) : MC l D ty yX7_undo cX7_undo 2 (some .int) 1 [.ref o] [(o, moE g hs a b c_), (a, arE ty 253 n), (b, arE ty 759 pa)] (some (.int (nI (sv - 1)))) [(o, moE (f_X7_undo_ok_o g sv) hs a b c_), (a, arE ty 253 (f_X7_undo_ok_a n pa sv)), (b, arE ty 759 pa)] := by
  refine mc_i (by decide +kernel) (Nat.le_of_ble_eq_true rfl) ?_
  intro p e s m args below meth c A Q ls C hK hA X hret hl
  have hx := C.1
  have hb := C.2.1
  have hl : lv_has ls 2 [(0, .ref o)] := hl
  have X : Wd D A s.heap [(o, moE g hs a b c_), (a, arE ty 253 n), (b, arE ty 759 pa)] s.heap [] := X
  refine lv_aload_n hx hb dX7_undo_0 rfl (lv_at hl 0 rfl) ?_
  refine lv_aload_n hx hb dX7_undo_1 rfl (lv_at hl 0 rfl) ?_
  refine get_mo_3 C hK X 0 rfl fl_X7_26 dX7_undo_2 ?_
  refine s_eqi (y := nI sv) (hs9) ?_
  refine lv_if_ne (tgt := 12) hx hb dX7_undo_5 (by decide) (fun _ => ?_) (fun c0 => absurd c0 (nI_ne0 (by omega) (by omega)))
  refine lv_iconst (v := 0) hx hb dX7_undo_12 (by decide) ?_
  refine s_cVi (ws' := [(o, moE (f_X7_refused_o g 0) hs a b c_), (a, arE ty 253 n), (b, arE ty 759 pa)]) C hK hA X (c_X7_refused l D ty o a b c_ g hs 0) [0] (pk_c rfl pk_n) rfl (pk_c rfl pk_n) (em_t (em_f (em_f em_n))) rfl ml_X7_refused wm_X7_29 (q0 := 0) rfl rfl rfl ⟨Nat.le_of_ble_eq_true rfl, Nat.le_of_ble_eq_true rfl⟩ ⟨Nat.zero_le _, Nat.zero_le _⟩ hl.1 rfl (Nat.le_of_ble_eq_true rfl) dX7_undo_13 (fun H locs X => ?_)
  refine s_eqi (y := 0) (by decide) ?_
  refine lv_if_eq (tgt := 21) hx hb dX7_undo_16 (by decide) (fun _ => ?_) (fun c0 => absurd (by decide) c0)
  refine lv_aload_n hx hb dX7_undo_21 rfl (lv_at hl 0 rfl) ?_
  refine lv_dup hx hb dX7_undo_22 rfl ?_
  refine get_mo_3 C hK X 0 rfl fl_X7_26 dX7_undo_23 ?_
  refine s_eqi (y := nI sv) (hs9) ?_
  refine lv_iconst (v := 1) hx hb dX7_undo_26 (by decide) ?_
  refine lv_isub hx hb dX7_undo_27 ?_
  refine s_eqi (y := nI (sv - 1)) (sb_m1s (by omega)) ?_
  refine put_mo_3 C hK X 0 rfl pl_X7_26 dX7_undo_28 (fun H locs X => ?_)
  have X : Wd D A s.heap [(o, moE (upd (f_X7_refused_o g 0) 0 (nI (sv - 1))) hs a b c_), (a, arE ty 253 n), (b, arE ty 759 pa)] H locs := X
  refine lv_iconst (v := 0) hx hb dX7_undo_31 (by decide) ?_
  refine lv_istore_n (lv' := [(1, .int 0), (0, .ref o)]) hx hb dX7_undo_32 rfl hl (by decide) rfl (fun ls hl => ?_)
  have K1 : ∀ (y1_0 : Int32) (y1_1 : F1) (ls : Array Slot) (H : Heap) (locs : List Loc), y1_0 = 253 → y1_1 = (va_cpy pa n (253 * (sv - 1)) 0 253) → lv_has ls 2 [(1, .int y1_0), (0, .ref o)] → Wd D A s.heap [(o, moE (upd (f_X7_refused_o g 0) 0 (nI (sv - 1))) hs a b c_), (a, arE ty 253 y1_1), (b, arE ty 759 pa)] H locs → W p l e (rmD 1) s m args below meth c H locs 0 0 Q (F0 m 67 ls []) := by
    intro y1_0 y1_1 ls H locs ey1_0 ey1_1 hl X
    replace ey1_0 := ey1_0.symm; subst ey1_0; replace ey1_1 := ey1_1.symm; subst ey1_1
    refine lv_aload_n hx hb dX7_undo_67 rfl (lv_at hl 1 rfl) ?_
    refine get_mo_3 C hK X 0 rfl fl_X7_26 dX7_undo_68 ?_
    refine s_eqi (y := (nI (sv - 1))) pk_us ?_
    have e_0_0 : (f_X7_undo_ok_o g sv) = (upd (f_X7_refused_o g 0) 0 (nI (sv - 1))) := by first | (rw [f_X7_undo_ok_o]; done) | (rw [f_X7_undo_ok_o]; rfl) | (simp only [f_X7_undo_ok_o]; done)
    have e_1_0 : (f_X7_undo_ok_a n pa sv) = (va_cpy pa n (253 * (sv - 1)) 0 253) := by first | (rw [f_X7_undo_ok_a]; done) | (rw [f_X7_undo_ok_a]; rfl) | (simp only [f_X7_undo_ok_a]; done)
    exact hret _ _ _ _ _ _ dX7_undo_71 X (by rw [e_0_0, e_1_0]) rfl
  have L1 : ∀ (kf i : Nat) (y1_0 : Int32) (y1_1 : F1) (ls : Array Slot) (H : Heap) (locs : List Loc), 253 - i < kf → (i ≤ 253) → y1_0 = (nI i) → y1_1 = (va_cpy pa n (253 * (sv - 1)) 0 i) → lv_has ls 2 [(1, .int y1_0), (0, .ref o)] → Wd D A s.heap [(o, moE (upd (f_X7_refused_o g 0) 0 (nI (sv - 1))) hs a b c_), (a, arE ty 253 y1_1), (b, arE ty 759 pa)] H locs → W p l e (rmD 1) s m args below meth c H locs 0 0 Q (F0 m 33 ls []) := by
    intro kf
    induction kf with
    | zero => intro i y1_0 y1_1 ls H locs hk; exact absurd hk (Nat.not_lt_zero _)
    | succ kf ih1 =>
      intro i y1_0 y1_1 ls H locs hk hI ey1_0 ey1_1 hl X
      replace ey1_0 := ey1_0.symm; subst ey1_0; replace ey1_1 := ey1_1.symm; subst ey1_1
      refine lv_iload_n hx hb dX7_undo_33 rfl (lv_at hl 0 rfl) ?_
      refine lv_sipush (v := 253) hx hb dX7_undo_34 (by decide) ?_
      refine lv_icmp_ge (tgt := 67) hx hb dX7_undo_37 (by decide) (fun c0_0 => ?_) (fun c0_0 => ?_)
      · have hE : i = 253 := eq_of_nIle (a := 253) (by decide) (by omega) hI c0_0
        exact K1 (nI i) (va_cpy pa n (253 * (sv - 1)) 0 i) _ _ _ (by rw [hE]; rfl) (by rw [hE]) (lv_sub hl [0, 1] rfl) X
      · have h1 : i < 253 := lt_of_nnIle (a := 253) (b := i) (by decide) (by omega) c0_0
        refine lv_aload_n hx hb dX7_undo_40 rfl (lv_at hl 1 rfl) ?_
        refine get_mo_0 C hK X 0 rfl fl_X7_7 dX7_undo_41 ?_
        refine lv_iload_n hx hb dX7_undo_44 rfl (lv_at hl 0 rfl) ?_
        refine lv_aload_n hx hb dX7_undo_45 rfl (lv_at hl 1 rfl) ?_
        refine get_mo_1 C hK X 0 rfl fl_X7_13 dX7_undo_46 ?_
        refine lv_sipush (v := 253) hx hb dX7_undo_49 (by decide) ?_
        refine lv_aload_n hx hb dX7_undo_52 rfl (lv_at hl 1 rfl) ?_
        refine get_mo_3 C hK X 0 rfl fl_X7_26 dX7_undo_53 ?_
        refine s_eqi (y := (nI (sv - 1))) pk_us ?_
        refine lv_imul hx hb dX7_undo_56 ?_
        refine s_eqi (y := nI (253 * (sv - 1))) (pk_mul 253 _) ?_
        refine lv_iload_n hx hb dX7_undo_57 rfl (lv_at hl 0 rfl) ?_
        refine lv_iadd hx hb dX7_undo_58 ?_
        refine s_eqi (y := nI (253 * (sv - 1) + i)) (nI_add _ _) ?_
        refine s_ialN C hK X 2 (253 * (sv - 1) + i) rfl rfl (by omega) (by decide) dX7_undo_59 ?_
        refine s_iasN C hK X 1 i rfl rfl h1 (by decide) dX7_undo_60 (fun H locs X => ?_)
        have X : Wd D A s.heap [(o, moE (upd (f_X7_refused_o g 0) 0 (nI (sv - 1))) hs a b c_), (a, arE ty 253 (upd (va_cpy pa n (253 * (sv - 1)) 0 i) i (pa (253 * (sv - 1) + i)))), (b, arE ty 759 pa)] H locs := X
        refine lv_iinc (v := ((nI i) + 1)) (lv' := [(1, .int ((nI i) + 1)), (0, .ref o)]) hx hb dX7_undo_61 hl (k := 0) rfl rfl (by decide) rfl (fun ls hl => ?_)
        refine lv_goto (tgt := 33) hx hb dX7_undo_64 (by decide) ?_
        have h1 : i < 253 := lt_of_nnIle (a := 253) (b := i) (by decide) (by omega) c0_0
        exact ih1 (i + 1) ((nI i) + 1) (upd (va_cpy pa n (253 * (sv - 1)) 0 i) i (pa (253 * (sv - 1) + i))) _ _ _ (by omega) (by omega) (nI_1 i) cpy_stepd (lv_sub hl [0, 1] rfl) X
  exact L1 (253 + 1) 0 0 n _ _ _ (by omega) (Nat.zero_le _) rfl cpy_0.symm (lv_sub hl [0, 1] rfl) X
def f_X7_undo_no_o (g : F1) : F1 := (f_X7_refused_o g 1)
set_option maxHeartbeats 4000000 in
set_option maxRecDepth 100000 in
theorem c_X7_undo_no (l : Launch) (D : va_G) (ty : Nat → ClassId) (o : Nat) (a : Nat) (b : Nat) (c_ : Nat) (g : F1) (hs : Int64) (hs9 : g 0 = 0) : MC l D ty yX7_undo cX7_undo 2 (some .int) 1 [.ref o] [(o, moE g hs a b c_)] (some (.int 0)) [(o, moE (f_X7_undo_no_o g) hs a b c_)] := by
  refine mc_i (by decide +kernel) (Nat.le_of_ble_eq_true rfl) ?_
  intro p e s m args below meth c A Q ls C hK hA X hret hl
  have hx := C.1
  have hb := C.2.1
  have hl : lv_has ls 2 [(0, .ref o)] := hl
  have X : Wd D A s.heap [(o, moE g hs a b c_)] s.heap [] := X
  refine lv_aload_n hx hb dX7_undo_0 rfl (lv_at hl 0 rfl) ?_
  refine lv_aload_n hx hb dX7_undo_1 rfl (lv_at hl 0 rfl) ?_
  refine get_mo_3 C hK X 0 rfl fl_X7_26 dX7_undo_2 ?_
  refine s_eqi (y := 0) (hs9) ?_
  refine lv_if_ne (tgt := 12) hx hb dX7_undo_5 (by decide) (fun c0 => absurd (by decide) c0) (fun _ => ?_)
  refine lv_iconst (v := 1) hx hb dX7_undo_8 (by decide) ?_
  refine lv_goto (tgt := 13) hx hb dX7_undo_9 (by decide) ?_
  refine s_cVi (ws' := [(o, moE (f_X7_refused_o g 1) hs a b c_)]) C hK hA X (c_X7_refused l D ty o a b c_ g hs 1) [0] (pk_c rfl pk_n) rfl (pk_c rfl pk_n) (em_t em_n) rfl ml_X7_refused wm_X7_29 (q0 := 0) rfl rfl rfl ⟨Nat.le_of_ble_eq_true rfl, Nat.le_of_ble_eq_true rfl⟩ ⟨Nat.zero_le _, Nat.zero_le _⟩ hl.1 rfl (Nat.le_of_ble_eq_true rfl) dX7_undo_13 (fun H locs X => ?_)
  refine s_eqi (y := 1) (by decide) ?_
  refine lv_if_eq (tgt := 21) hx hb dX7_undo_16 (by decide) (fun c0 => absurd c0 (by decide)) (fun _ => ?_)
  refine lv_iconst (v := 0) hx hb dX7_undo_19 (by decide) ?_
  have e_0_0 : (f_X7_undo_no_o g) = (f_X7_refused_o g 1) := by first | (rw [f_X7_undo_no_o]; done) | (rw [f_X7_undo_no_o]; rfl) | (simp only [f_X7_undo_no_o]; done)
  exact hret _ _ _ _ _ _ dX7_undo_20 X (by rw [e_0_0]) rfl
def f_X7_setSpeed_ok_o (g : F1) (sv : Nat) : F1 := (f_X7_saves_o (f_X7_refused_o g 0) sv)
def f_X7_setSpeed_ok_a (n : F1) (V : Int32) : F1 := (f_X7_speeds_a n V)
def f_X7_setSpeed_ok_b (n : F1) (pa : F1) (sv : Nat) : F1 := (f_X7_saves_b n pa sv)
theorem ok_X7_setSpeed_ok_a (n : F1) (V : Int32) (hM : MOK n) : MOK (f_X7_setSpeed_ok_a n V) := by
  (try simp only [f_X7_setSpeed_ok_a]); exact (ok_X7_speeds_a n V hM)
set_option maxHeartbeats 4000000 in
set_option maxRecDepth 100000 in
theorem c_X7_setSpeed_ok (l : Launch) (D : va_G) (ty : Nat → ClassId) (o : Nat) (a : Nat) (b : Nat) (c_ : Nat) (g : F1) (hs : Int64) (n : F1) (pa : F1) (sv : Nat) (V : Int32) (hs9 : g 0 = nI sv) (hsv : sv ≤ 3) (hM : MOK n) (hv : f_X7_within V 0 60000 = 1) : MC l D ty yX7_setSpeed cX7_setSpeed 3 (some .int) 3 [.ref o, .int V] [(o, moE g hs a b c_), (a, arE ty 253 n), (b, arE ty 759 pa)] (some (.int (n 0))) [(o, moE (f_X7_setSpeed_ok_o g sv) hs a b c_), (a, arE ty 253 (f_X7_setSpeed_ok_a n V)), (b, arE ty 759 (f_X7_setSpeed_ok_b n pa sv))] := by
  refine mc_i (by decide +kernel) (Nat.le_of_ble_eq_true rfl) ?_
  intro p e s m args below meth c A Q ls C hK hA X hret hl
  have hx := C.1
  have hb := C.2.1
  have hl : lv_has ls 3 [(0, .ref o), (1, .int V)] := hl
  have X : Wd D A s.heap [(o, moE g hs a b c_), (a, arE ty 253 n), (b, arE ty 759 pa)] s.heap [] := X
  refine lv_aload_n hx hb dX7_setSpeed_0 rfl (lv_at hl 0 rfl) ?_
  refine lv_iload_n hx hb dX7_setSpeed_1 rfl (lv_at hl 1 rfl) ?_
  refine lv_iconst (v := 0) hx hb dX7_setSpeed_2 (by decide) ?_
  refine lv_ldc hx hb C.2.2.2.1 (C.2.2.2.2 _ wk_X7_142) dX7_setSpeed_3 ?_
  refine s_cS0i C hK hA X (c_X7_within l D ty V 0 60000) [] pk_n rfl sl_X7_within wm_X7_37 ⟨Nat.le_of_ble_eq_true rfl, Nat.le_of_ble_eq_true rfl⟩ ⟨Nat.zero_le _, Nat.zero_le _⟩ hl.1 rfl (Nat.le_of_ble_eq_true rfl) dX7_setSpeed_5 (fun H locs X => ?_)
  refine s_eqi (y := 1) (hv) ?_
  refine lv_if_eq (tgt := 15) hx hb dX7_setSpeed_8 (by decide) (fun c0 => absurd c0 (by decide)) (fun _ => ?_)
  refine lv_iconst (v := 0) hx hb dX7_setSpeed_11 (by decide) ?_
  refine lv_goto (tgt := 16) hx hb dX7_setSpeed_12 (by decide) ?_
  refine s_cVi (ws' := [(o, moE (f_X7_refused_o g 0) hs a b c_), (a, arE ty 253 n), (b, arE ty 759 pa)]) C hK hA X (c_X7_refused l D ty o a b c_ g hs 0) [0] (pk_c rfl pk_n) rfl (pk_c rfl pk_n) (em_t (em_f (em_f em_n))) rfl ml_X7_refused wm_X7_29 (q0 := 0) rfl rfl rfl ⟨Nat.le_of_ble_eq_true rfl, Nat.le_of_ble_eq_true rfl⟩ ⟨Nat.zero_le _, Nat.zero_le _⟩ hl.1 rfl (Nat.le_of_ble_eq_true rfl) dX7_setSpeed_16 (fun H locs X => ?_)
  refine s_eqi (y := 0) (by decide) ?_
  refine lv_if_eq (tgt := 24) hx hb dX7_setSpeed_19 (by decide) (fun _ => ?_) (fun c0 => absurd (by decide) c0)
  refine lv_aload_n hx hb dX7_setSpeed_24 rfl (lv_at hl 0 rfl) ?_
  refine s_cVv (ws' := [(o, moE (f_X7_saves_o (f_X7_refused_o g 0) sv) hs a b c_), (a, arE ty 253 n), (b, arE ty 759 (f_X7_saves_b n pa sv))]) C hK hA X (c_X7_saves l D ty o a b c_ (f_X7_refused_o g 0) hs n pa sv ((pk_un (by decide)).trans hs9) hsv) [0, 1, 2] (pk_c rfl (pk_c rfl (pk_c rfl pk_n))) rfl (pk_c rfl (pk_c rfl (pk_c rfl pk_n))) (em_t (em_t (em_t em_n))) rfl ml_X7_saves wm_X7_143 (q0 := 0) rfl rfl rfl ⟨Nat.le_of_ble_eq_true rfl, Nat.le_of_ble_eq_true rfl⟩ ⟨Nat.zero_le _, Nat.zero_le _⟩ hl.1 rfl (Nat.le_of_ble_eq_true rfl) dX7_setSpeed_25 (fun H locs X => ?_)
  refine lv_aload_n hx hb dX7_setSpeed_28 rfl (lv_at hl 0 rfl) ?_
  refine get_mo_0 C hK X 0 rfl fl_X7_7 dX7_setSpeed_29 ?_
  refine lv_iconst (v := 0) hx hb dX7_setSpeed_32 (by decide) ?_
  refine s_ialN C hK X 1 0 rfl rfl (by decide) (by decide) dX7_setSpeed_33 ?_
  refine lv_istore_n (lv' := [(2, .int (n 0)), (0, .ref o), (1, .int V)]) hx hb dX7_setSpeed_34 rfl hl (by decide) rfl (fun ls hl => ?_)
  refine lv_aload_n hx hb dX7_setSpeed_35 rfl (lv_at hl 1 rfl) ?_
  refine lv_iload_n hx hb dX7_setSpeed_36 rfl (lv_at hl 2 rfl) ?_
  refine s_cVv (ws' := [(o, moE (f_X7_saves_o (f_X7_refused_o g 0) sv) hs a b c_), (a, arE ty 253 (f_X7_speeds_a n V)), (b, arE ty 759 (f_X7_saves_b n pa sv))]) C hK hA X (c_X7_speeds l D ty o a b c_ (f_X7_saves_o (f_X7_refused_o g 0) sv) hs n V hM) [0, 1] (pk_c rfl (pk_c rfl pk_n)) rfl (pk_c rfl (pk_c rfl pk_n)) (em_t (em_t (em_f em_n))) rfl ml_X7_speeds wm_X7_146 (q0 := 0) rfl rfl rfl ⟨Nat.le_of_ble_eq_true rfl, Nat.le_of_ble_eq_true rfl⟩ ⟨Nat.zero_le _, Nat.zero_le _⟩ hl.1 rfl (Nat.le_of_ble_eq_true rfl) dX7_setSpeed_37 (fun H locs X => ?_)
  refine lv_iload_n hx hb dX7_setSpeed_40 rfl (lv_at hl 0 rfl) ?_
  have e_0_0 : (f_X7_setSpeed_ok_o g sv) = (f_X7_saves_o (f_X7_refused_o g 0) sv) := by first | (rw [f_X7_setSpeed_ok_o]; done) | (rw [f_X7_setSpeed_ok_o]; rfl) | (simp only [f_X7_setSpeed_ok_o]; done)
  have e_1_0 : (f_X7_setSpeed_ok_a n V) = (f_X7_speeds_a n V) := by first | (rw [f_X7_setSpeed_ok_a]; done) | (rw [f_X7_setSpeed_ok_a]; rfl) | (simp only [f_X7_setSpeed_ok_a]; done)
  have e_2_1 : (f_X7_setSpeed_ok_b n pa sv) = (f_X7_saves_b n pa sv) := by first | (rw [f_X7_setSpeed_ok_b]; done) | (rw [f_X7_setSpeed_ok_b]; rfl) | (simp only [f_X7_setSpeed_ok_b]; done)
  exact hret _ _ _ _ _ _ dX7_setSpeed_41 X (by rw [e_0_0, e_1_0, e_2_1]) rfl
def f_X7_setSpeed_no_o (g : F1) : F1 := (f_X7_refused_o g 1)
set_option maxHeartbeats 4000000 in
set_option maxRecDepth 100000 in
theorem c_X7_setSpeed_no (l : Launch) (D : va_G) (ty : Nat → ClassId) (o : Nat) (a : Nat) (b : Nat) (c_ : Nat) (g : F1) (hs : Int64) (V : Int32) (hv : f_X7_within V 0 60000 = 0) : MC l D ty yX7_setSpeed cX7_setSpeed 3 (some .int) 1 [.ref o, .int V] [(o, moE g hs a b c_)] (some (.int 0)) [(o, moE (f_X7_setSpeed_no_o g) hs a b c_)] := by
  refine mc_i (by decide +kernel) (Nat.le_of_ble_eq_true rfl) ?_
  intro p e s m args below meth c A Q ls C hK hA X hret hl
  have hx := C.1
  have hb := C.2.1
  have hl : lv_has ls 3 [(0, .ref o), (1, .int V)] := hl
  have X : Wd D A s.heap [(o, moE g hs a b c_)] s.heap [] := X
  refine lv_aload_n hx hb dX7_setSpeed_0 rfl (lv_at hl 0 rfl) ?_
  refine lv_iload_n hx hb dX7_setSpeed_1 rfl (lv_at hl 1 rfl) ?_
  refine lv_iconst (v := 0) hx hb dX7_setSpeed_2 (by decide) ?_
  refine lv_ldc hx hb C.2.2.2.1 (C.2.2.2.2 _ wk_X7_142) dX7_setSpeed_3 ?_
  refine s_cS0i C hK hA X (c_X7_within l D ty V 0 60000) [] pk_n rfl sl_X7_within wm_X7_37 ⟨Nat.le_of_ble_eq_true rfl, Nat.le_of_ble_eq_true rfl⟩ ⟨Nat.zero_le _, Nat.zero_le _⟩ hl.1 rfl (Nat.le_of_ble_eq_true rfl) dX7_setSpeed_5 (fun H locs X => ?_)
  refine s_eqi (y := 0) (hv) ?_
  refine lv_if_eq (tgt := 15) hx hb dX7_setSpeed_8 (by decide) (fun _ => ?_) (fun c0 => absurd (by decide) c0)
  refine lv_iconst (v := 1) hx hb dX7_setSpeed_15 (by decide) ?_
  refine s_cVi (ws' := [(o, moE (f_X7_refused_o g 1) hs a b c_)]) C hK hA X (c_X7_refused l D ty o a b c_ g hs 1) [0] (pk_c rfl pk_n) rfl (pk_c rfl pk_n) (em_t em_n) rfl ml_X7_refused wm_X7_29 (q0 := 0) rfl rfl rfl ⟨Nat.le_of_ble_eq_true rfl, Nat.le_of_ble_eq_true rfl⟩ ⟨Nat.zero_le _, Nat.zero_le _⟩ hl.1 rfl (Nat.le_of_ble_eq_true rfl) dX7_setSpeed_16 (fun H locs X => ?_)
  refine s_eqi (y := 1) (by decide) ?_
  refine lv_if_eq (tgt := 24) hx hb dX7_setSpeed_19 (by decide) (fun c0 => absurd c0 (by decide)) (fun _ => ?_)
  refine lv_iconst (v := 0) hx hb dX7_setSpeed_22 (by decide) ?_
  have e_0_0 : (f_X7_setSpeed_no_o g) = (f_X7_refused_o g 1) := by first | (rw [f_X7_setSpeed_no_o]; done) | (rw [f_X7_setSpeed_no_o]; rfl) | (simp only [f_X7_setSpeed_no_o]; done)
  exact hret _ _ _ _ _ _ dX7_setSpeed_23 X (by rw [e_0_0]) rfl
def f_X7_setDemand_ok_o (g : F1) (sv : Nat) : F1 := (f_X7_saves_o (f_X7_refused_o g 0) sv)
def f_X7_setDemand_ok_a (n : F1) (V : Int32) : F1 := (upd n 3 V)
def f_X7_setDemand_ok_b (n : F1) (pa : F1) (sv : Nat) : F1 := (f_X7_saves_b n pa sv)
theorem ok_X7_setDemand_ok_a (n : F1) (V : Int32) (hM : MOK n) : MOK (f_X7_setDemand_ok_a n V) := by
  (try simp only [f_X7_setDemand_ok_a]); exact (MOK_i (by decide) hM)
set_option maxHeartbeats 4000000 in
set_option maxRecDepth 100000 in
theorem c_X7_setDemand_ok (l : Launch) (D : va_G) (ty : Nat → ClassId) (o : Nat) (a : Nat) (b : Nat) (c_ : Nat) (g : F1) (hs : Int64) (n : F1) (pa : F1) (sv : Nat) (V : Int32) (hs9 : g 0 = nI sv) (hsv : sv ≤ 3) (hM : MOK n) (hv : f_X7_within V 0 2000 = 1) : MC l D ty yX7_setDemand cX7_setDemand 3 (some .int) 1 [.ref o, .int V] [(o, moE g hs a b c_), (a, arE ty 253 n), (b, arE ty 759 pa)] (some (.int (n 3))) [(o, moE (f_X7_setDemand_ok_o g sv) hs a b c_), (a, arE ty 253 (f_X7_setDemand_ok_a n V)), (b, arE ty 759 (f_X7_setDemand_ok_b n pa sv))] := by
  refine mc_i (by decide +kernel) (Nat.le_of_ble_eq_true rfl) ?_
  intro p e s m args below meth c A Q ls C hK hA X hret hl
  have hx := C.1
  have hb := C.2.1
  have hl : lv_has ls 3 [(0, .ref o), (1, .int V)] := hl
  have X : Wd D A s.heap [(o, moE g hs a b c_), (a, arE ty 253 n), (b, arE ty 759 pa)] s.heap [] := X
  refine lv_aload_n hx hb dX7_setDemand_0 rfl (lv_at hl 0 rfl) ?_
  refine lv_iload_n hx hb dX7_setDemand_1 rfl (lv_at hl 1 rfl) ?_
  refine lv_iconst (v := 0) hx hb dX7_setDemand_2 (by decide) ?_
  refine lv_sipush (v := 2000) hx hb dX7_setDemand_3 (by decide) ?_
  refine s_cS0i C hK hA X (c_X7_within l D ty V 0 2000) [] pk_n rfl sl_X7_within wm_X7_37 ⟨Nat.le_of_ble_eq_true rfl, Nat.le_of_ble_eq_true rfl⟩ ⟨Nat.zero_le _, Nat.zero_le _⟩ hl.1 rfl (Nat.le_of_ble_eq_true rfl) dX7_setDemand_6 (fun H locs X => ?_)
  refine s_eqi (y := 1) (hv) ?_
  refine lv_if_eq (tgt := 16) hx hb dX7_setDemand_9 (by decide) (fun c0 => absurd c0 (by decide)) (fun _ => ?_)
  refine lv_iconst (v := 0) hx hb dX7_setDemand_12 (by decide) ?_
  refine lv_goto (tgt := 17) hx hb dX7_setDemand_13 (by decide) ?_
  refine s_cVi (ws' := [(o, moE (f_X7_refused_o g 0) hs a b c_), (a, arE ty 253 n), (b, arE ty 759 pa)]) C hK hA X (c_X7_refused l D ty o a b c_ g hs 0) [0] (pk_c rfl pk_n) rfl (pk_c rfl pk_n) (em_t (em_f (em_f em_n))) rfl ml_X7_refused wm_X7_29 (q0 := 0) rfl rfl rfl ⟨Nat.le_of_ble_eq_true rfl, Nat.le_of_ble_eq_true rfl⟩ ⟨Nat.zero_le _, Nat.zero_le _⟩ hl.1 rfl (Nat.le_of_ble_eq_true rfl) dX7_setDemand_17 (fun H locs X => ?_)
  refine s_eqi (y := 0) (by decide) ?_
  refine lv_if_eq (tgt := 25) hx hb dX7_setDemand_20 (by decide) (fun _ => ?_) (fun c0 => absurd (by decide) c0)
  refine lv_aload_n hx hb dX7_setDemand_25 rfl (lv_at hl 0 rfl) ?_
  refine s_cVv (ws' := [(o, moE (f_X7_saves_o (f_X7_refused_o g 0) sv) hs a b c_), (a, arE ty 253 n), (b, arE ty 759 (f_X7_saves_b n pa sv))]) C hK hA X (c_X7_saves l D ty o a b c_ (f_X7_refused_o g 0) hs n pa sv ((pk_un (by decide)).trans hs9) hsv) [0, 1, 2] (pk_c rfl (pk_c rfl (pk_c rfl pk_n))) rfl (pk_c rfl (pk_c rfl (pk_c rfl pk_n))) (em_t (em_t (em_t em_n))) rfl ml_X7_saves wm_X7_143 (q0 := 0) rfl rfl rfl ⟨Nat.le_of_ble_eq_true rfl, Nat.le_of_ble_eq_true rfl⟩ ⟨Nat.zero_le _, Nat.zero_le _⟩ hl.1 rfl (Nat.le_of_ble_eq_true rfl) dX7_setDemand_26 (fun H locs X => ?_)
  refine lv_aload_n hx hb dX7_setDemand_29 rfl (lv_at hl 0 rfl) ?_
  refine get_mo_0 C hK X 0 rfl fl_X7_7 dX7_setDemand_30 ?_
  refine lv_iconst (v := 3) hx hb dX7_setDemand_33 (by decide) ?_
  refine s_ialN C hK X 1 3 rfl rfl (by decide) (by decide) dX7_setDemand_34 ?_
  refine lv_istore_n (lv' := [(2, .int (n 3)), (0, .ref o), (1, .int V)]) hx hb dX7_setDemand_35 rfl hl (by decide) rfl (fun ls hl => ?_)
  refine lv_aload_n hx hb dX7_setDemand_36 rfl (lv_at hl 1 rfl) ?_
  refine get_mo_0 C hK X 0 rfl fl_X7_7 dX7_setDemand_37 ?_
  refine lv_iconst (v := 3) hx hb dX7_setDemand_40 (by decide) ?_
  refine lv_iload_n hx hb dX7_setDemand_41 rfl (lv_at hl 2 rfl) ?_
  refine s_iasN C hK X 1 3 rfl rfl (by decide) (by decide) dX7_setDemand_42 (fun H locs X => ?_)
  have X : Wd D A s.heap [(o, moE (f_X7_saves_o (f_X7_refused_o g 0) sv) hs a b c_), (a, arE ty 253 (upd n 3 V)), (b, arE ty 759 (f_X7_saves_b n pa sv))] H locs := X
  refine lv_iload_n hx hb dX7_setDemand_43 rfl (lv_at hl 0 rfl) ?_
  have e_0_0 : (f_X7_setDemand_ok_o g sv) = (f_X7_saves_o (f_X7_refused_o g 0) sv) := by first | (rw [f_X7_setDemand_ok_o]; done) | (rw [f_X7_setDemand_ok_o]; rfl) | (simp only [f_X7_setDemand_ok_o]; done)
  have e_1_0 : (f_X7_setDemand_ok_a n V) = (upd n 3 V) := by first | (rw [f_X7_setDemand_ok_a]; done) | (rw [f_X7_setDemand_ok_a]; rfl) | (simp only [f_X7_setDemand_ok_a]; done)
  have e_2_1 : (f_X7_setDemand_ok_b n pa sv) = (f_X7_saves_b n pa sv) := by first | (rw [f_X7_setDemand_ok_b]; done) | (rw [f_X7_setDemand_ok_b]; rfl) | (simp only [f_X7_setDemand_ok_b]; done)
  exact hret _ _ _ _ _ _ dX7_setDemand_44 X (by rw [e_0_0, e_1_0, e_2_1]) rfl
def f_X7_setDemand_no_o (g : F1) : F1 := (f_X7_refused_o g 1)
set_option maxHeartbeats 4000000 in
set_option maxRecDepth 100000 in
theorem c_X7_setDemand_no (l : Launch) (D : va_G) (ty : Nat → ClassId) (o : Nat) (a : Nat) (b : Nat) (c_ : Nat) (g : F1) (hs : Int64) (V : Int32) (hv : f_X7_within V 0 2000 = 0) : MC l D ty yX7_setDemand cX7_setDemand 3 (some .int) 1 [.ref o, .int V] [(o, moE g hs a b c_)] (some (.int 0)) [(o, moE (f_X7_setDemand_no_o g) hs a b c_)] := by
  refine mc_i (by decide +kernel) (Nat.le_of_ble_eq_true rfl) ?_
  intro p e s m args below meth c A Q ls C hK hA X hret hl
  have hx := C.1
  have hb := C.2.1
  have hl : lv_has ls 3 [(0, .ref o), (1, .int V)] := hl
  have X : Wd D A s.heap [(o, moE g hs a b c_)] s.heap [] := X
  refine lv_aload_n hx hb dX7_setDemand_0 rfl (lv_at hl 0 rfl) ?_
  refine lv_iload_n hx hb dX7_setDemand_1 rfl (lv_at hl 1 rfl) ?_
  refine lv_iconst (v := 0) hx hb dX7_setDemand_2 (by decide) ?_
  refine lv_sipush (v := 2000) hx hb dX7_setDemand_3 (by decide) ?_
  refine s_cS0i C hK hA X (c_X7_within l D ty V 0 2000) [] pk_n rfl sl_X7_within wm_X7_37 ⟨Nat.le_of_ble_eq_true rfl, Nat.le_of_ble_eq_true rfl⟩ ⟨Nat.zero_le _, Nat.zero_le _⟩ hl.1 rfl (Nat.le_of_ble_eq_true rfl) dX7_setDemand_6 (fun H locs X => ?_)
  refine s_eqi (y := 0) (hv) ?_
  refine lv_if_eq (tgt := 16) hx hb dX7_setDemand_9 (by decide) (fun _ => ?_) (fun c0 => absurd (by decide) c0)
  refine lv_iconst (v := 1) hx hb dX7_setDemand_16 (by decide) ?_
  refine s_cVi (ws' := [(o, moE (f_X7_refused_o g 1) hs a b c_)]) C hK hA X (c_X7_refused l D ty o a b c_ g hs 1) [0] (pk_c rfl pk_n) rfl (pk_c rfl pk_n) (em_t em_n) rfl ml_X7_refused wm_X7_29 (q0 := 0) rfl rfl rfl ⟨Nat.le_of_ble_eq_true rfl, Nat.le_of_ble_eq_true rfl⟩ ⟨Nat.zero_le _, Nat.zero_le _⟩ hl.1 rfl (Nat.le_of_ble_eq_true rfl) dX7_setDemand_17 (fun H locs X => ?_)
  refine s_eqi (y := 1) (by decide) ?_
  refine lv_if_eq (tgt := 25) hx hb dX7_setDemand_20 (by decide) (fun c0 => absurd c0 (by decide)) (fun _ => ?_)
  refine lv_iconst (v := 0) hx hb dX7_setDemand_23 (by decide) ?_
  have e_0_0 : (f_X7_setDemand_no_o g) = (f_X7_refused_o g 1) := by first | (rw [f_X7_setDemand_no_o]; done) | (rw [f_X7_setDemand_no_o]; rfl) | (simp only [f_X7_setDemand_no_o]; done)
  exact hret _ _ _ _ _ _ dX7_setDemand_24 X (by rw [e_0_0]) rfl
def v_X7_setFault_ok_1 (n : F1) (j : Nat) : Int32 := (if (n (10 + 16 * j + 9)) = 1 then 1 else 0)
def v_X7_setFault_ok_3 (on : Int32) : Int32 := (if on = 0 then 0 else 1)
def f_X7_setFault_ok (n : F1) (j : Nat) : Int32 := (v_X7_setFault_ok_1 n j)
def f_X7_setFault_ok_o (g : F1) (sv : Nat) : F1 := (f_X7_saves_o (f_X7_refused_o g 0) sv)
def f_X7_setFault_ok_a (n : F1) (j : Nat) (on : Int32) : F1 := (f_X7_sets_a n (v_X7_setFault_ok_3 on) (10 + 16 * j + 9))
def f_X7_setFault_ok_b (n : F1) (pa : F1) (sv : Nat) : F1 := (f_X7_saves_b n pa sv)
theorem ok_X7_setFault_ok_a (n : F1) (j : Nat) (on : Int32) (hM : MOK n) (hj : j < 4) : MOK (f_X7_setFault_ok_a n j on) := by
  (try simp only [f_X7_setFault_ok_a]); exact (MOK_w (j := j) (k := 9) (by omega) (by decide) hM)
set_option maxHeartbeats 4000000 in
set_option maxRecDepth 100000 in
theorem c_X7_setFault_ok (l : Launch) (D : va_G) (ty : Nat → ClassId) (o : Nat) (a : Nat) (b : Nat) (c_ : Nat) (g : F1) (hs : Int64) (n : F1) (pa : F1) (sv : Nat) (j : Nat) (on : Int32) (hs9 : g 0 = nI sv) (hsv : sv ≤ 3) (hM : MOK n) (hj : j < 4) (hv : f_X7_isWheel (nI j) = 1) : MC l D ty yX7_setFault cX7_setFault 4 (some .boolean) 2 [.ref o, .int (nI j), .int on] [(o, moE g hs a b c_), (a, arE ty 253 n), (b, arE ty 759 pa)] (some (.int (f_X7_setFault_ok n j))) [(o, moE (f_X7_setFault_ok_o g sv) hs a b c_), (a, arE ty 253 (f_X7_setFault_ok_a n j on)), (b, arE ty 759 (f_X7_setFault_ok_b n pa sv))] := by
  refine mc_z (by decide +kernel) (Nat.le_of_ble_eq_true rfl) (and_b (by unfold f_X7_setFault_ok v_X7_setFault_ok_1; (repeat' split) <;> first | exact isB0 | exact isB1)) ?_
  intro p e s m args below meth c A Q ls C hK hA X hret hl
  have hx := C.1
  have hb := C.2.1
  have hl : lv_has ls 4 [(0, .ref o), (1, .int (nI j)), (2, .int on)] := hl
  have X : Wd D A s.heap [(o, moE g hs a b c_), (a, arE ty 253 n), (b, arE ty 759 pa)] s.heap [] := X
  refine lv_aload_n hx hb dX7_setFault_0 rfl (lv_at hl 0 rfl) ?_
  refine lv_iload_n hx hb dX7_setFault_1 rfl (lv_at hl 1 rfl) ?_
  refine s_cS0i C hK hA X (c_X7_isWheel l D ty (nI j)) [] pk_n rfl sl_X7_isWheel wm_X7_153 ⟨Nat.le_of_ble_eq_true rfl, Nat.le_of_ble_eq_true rfl⟩ ⟨Nat.zero_le _, Nat.zero_le _⟩ hl.1 rfl (Nat.le_of_ble_eq_true rfl) dX7_setFault_2 (fun H locs X => ?_)
  refine s_eqi (y := 1) (hv) ?_
  refine lv_if_eq (tgt := 12) hx hb dX7_setFault_5 (by decide) (fun c0 => absurd c0 (by decide)) (fun _ => ?_)
  refine lv_iconst (v := 0) hx hb dX7_setFault_8 (by decide) ?_
  refine lv_goto (tgt := 13) hx hb dX7_setFault_9 (by decide) ?_
  refine s_cVi (ws' := [(o, moE (f_X7_refused_o g 0) hs a b c_), (a, arE ty 253 n), (b, arE ty 759 pa)]) C hK hA X (c_X7_refused l D ty o a b c_ g hs 0) [0] (pk_c rfl pk_n) rfl (pk_c rfl pk_n) (em_t (em_f (em_f em_n))) rfl ml_X7_refused wm_X7_29 (q0 := 0) rfl rfl rfl ⟨Nat.le_of_ble_eq_true rfl, Nat.le_of_ble_eq_true rfl⟩ ⟨Nat.zero_le _, Nat.zero_le _⟩ hl.1 rfl (Nat.le_of_ble_eq_true rfl) dX7_setFault_13 (fun H locs X => ?_)
  refine s_eqi (y := 0) (by decide) ?_
  refine lv_if_eq (tgt := 21) hx hb dX7_setFault_16 (by decide) (fun _ => ?_) (fun c0 => absurd (by decide) c0)
  refine lv_aload_n hx hb dX7_setFault_21 rfl (lv_at hl 0 rfl) ?_
  refine s_cVv (ws' := [(o, moE (f_X7_saves_o (f_X7_refused_o g 0) sv) hs a b c_), (a, arE ty 253 n), (b, arE ty 759 (f_X7_saves_b n pa sv))]) C hK hA X (c_X7_saves l D ty o a b c_ (f_X7_refused_o g 0) hs n pa sv ((pk_un (by decide)).trans hs9) hsv) [0, 1, 2] (pk_c rfl (pk_c rfl (pk_c rfl pk_n))) rfl (pk_c rfl (pk_c rfl (pk_c rfl pk_n))) (em_t (em_t (em_t em_n))) rfl ml_X7_saves wm_X7_143 (q0 := 0) rfl rfl rfl ⟨Nat.le_of_ble_eq_true rfl, Nat.le_of_ble_eq_true rfl⟩ ⟨Nat.zero_le _, Nat.zero_le _⟩ hl.1 rfl (Nat.le_of_ble_eq_true rfl) dX7_setFault_22 (fun H locs X => ?_)
  refine lv_aload_n hx hb dX7_setFault_25 rfl (lv_at hl 0 rfl) ?_
  refine lv_iload_n hx hb dX7_setFault_26 rfl (lv_at hl 1 rfl) ?_
  refine lv_bipush (v := 9) hx hb dX7_setFault_27 (by decide) ?_
  refine s_cV0i C hK hA X (c_X7_get l D ty o a b c_ (f_X7_saves_o (f_X7_refused_o g 0) sv) hs n (nI j) 9 (10 + 16 * j + 9) (atN j 9) (by omega)) [0, 1] (pk_c rfl (pk_c rfl pk_n)) rfl ml_X7_get wm_X7_45 (q0 := 0) rfl rfl rfl ⟨Nat.le_of_ble_eq_true rfl, Nat.le_of_ble_eq_true rfl⟩ ⟨Nat.zero_le _, Nat.zero_le _⟩ hl.1 rfl (Nat.le_of_ble_eq_true rfl) dX7_setFault_29 (fun H locs X => ?_)
  refine lv_iconst (v := 1) hx hb dX7_setFault_32 (by decide) ?_
  have J41_2 : ∀ (x1 : Int32) (ls : Array Slot) (H : Heap) (locs : List Loc), x1 = (v_X7_setFault_ok_1 n j) → lv_has ls 4 [(0, .ref o), (1, .int (nI j)), (2, .int on)] → Wd D A s.heap [(o, moE (f_X7_saves_o (f_X7_refused_o g 0) sv) hs a b c_), (a, arE ty 253 n), (b, arE ty 759 (f_X7_saves_b n pa sv))] H locs → W p l e (rmD 2) s m args below meth c H locs 0 0 Q (F0 m 41 ls [.int x1]) := by
    intro x1 ls H locs ex1 hl X
    replace ex1 := ex1.symm; subst ex1
    refine lv_istore_n (lv' := [(3, .int (v_X7_setFault_ok_1 n j)), (0, .ref o), (1, .int (nI j)), (2, .int on)]) hx hb dX7_setFault_41 rfl hl (by decide) rfl (fun ls hl => ?_)
    refine lv_aload_n hx hb dX7_setFault_42 rfl (lv_at hl 1 rfl) ?_
    refine lv_iload_n hx hb dX7_setFault_43 rfl (lv_at hl 2 rfl) ?_
    refine lv_bipush (v := 9) hx hb dX7_setFault_44 (by decide) ?_
    refine lv_iload_n hx hb dX7_setFault_46 rfl (lv_at hl 3 rfl) ?_
    have J55_4 : ∀ (x3 : Int32) (ls : Array Slot) (H : Heap) (locs : List Loc), x3 = (v_X7_setFault_ok_3 on) → lv_has ls 4 [(3, .int (v_X7_setFault_ok_1 n j)), (0, .ref o), (1, .int (nI j)), (2, .int on)] → Wd D A s.heap [(o, moE (f_X7_saves_o (f_X7_refused_o g 0) sv) hs a b c_), (a, arE ty 253 n), (b, arE ty 759 (f_X7_saves_b n pa sv))] H locs → W p l e (rmD 2) s m args below meth c H locs 0 0 Q (F0 m 55 ls [.int x3, .int 9, .int (nI j), .ref o]) := by
      intro x3 ls H locs ex3 hl X
      replace ex3 := ex3.symm; subst ex3
      refine s_cVv (ws' := [(o, moE (f_X7_saves_o (f_X7_refused_o g 0) sv) hs a b c_), (a, arE ty 253 (f_X7_sets_a n (v_X7_setFault_ok_3 on) (10 + 16 * j + 9))), (b, arE ty 759 (f_X7_saves_b n pa sv))]) C hK hA X (c_X7_sets l D ty o a b c_ (f_X7_saves_o (f_X7_refused_o g 0) sv) hs n (nI j) 9 (v_X7_setFault_ok_3 on) (10 + 16 * j + 9) (atN j 9) (by omega)) [0, 1] (pk_c rfl (pk_c rfl pk_n)) rfl (pk_c rfl (pk_c rfl pk_n)) (em_t (em_t (em_f em_n))) rfl ml_X7_sets wm_X7_59 (q0 := 0) rfl rfl rfl ⟨Nat.le_of_ble_eq_true rfl, Nat.le_of_ble_eq_true rfl⟩ ⟨Nat.zero_le _, Nat.zero_le _⟩ hl.1 rfl (Nat.le_of_ble_eq_true rfl) dX7_setFault_55 (fun H locs X => ?_)
      refine lv_iload_n hx hb dX7_setFault_58 rfl (lv_at hl 0 rfl) ?_
      have e_0_0 : (f_X7_setFault_ok_o g sv) = (f_X7_saves_o (f_X7_refused_o g 0) sv) := by first | (rw [f_X7_setFault_ok_o]; done) | (rw [f_X7_setFault_ok_o]; rfl) | (simp only [f_X7_setFault_ok_o]; done)
      have e_1_0 : (f_X7_setFault_ok_a n j on) = (f_X7_sets_a n (v_X7_setFault_ok_3 on) (10 + 16 * j + 9)) := by first | (rw [f_X7_setFault_ok_a]; done) | (rw [f_X7_setFault_ok_a]; rfl) | (simp only [f_X7_setFault_ok_a]; done)
      have e_2_1 : (f_X7_setFault_ok_b n pa sv) = (f_X7_saves_b n pa sv) := by first | (rw [f_X7_setFault_ok_b]; done) | (rw [f_X7_setFault_ok_b]; rfl) | (simp only [f_X7_setFault_ok_b]; done)
      exact hret _ _ _ _ _ _ dX7_setFault_59 X (by rw [e_0_0, e_1_0, e_2_1]) (by first | (rw [f_X7_setFault_ok]; done) | (rw [f_X7_setFault_ok]; rfl) | (simp only [f_X7_setFault_ok]; done))
    refine lv_if_eq (tgt := 54) hx hb dX7_setFault_47 (by decide) (fun c0_0 => ?_) (fun c0_0 => ?_)
    · refine lv_iconst (v := 0) hx hb dX7_setFault_54 (by decide) ?_
      exact J55_4 0 _ _ _ (by first | (rw [v_X7_setFault_ok_3, if_pos c0_0]; done) | (rw [v_X7_setFault_ok_3, if_pos c0_0]; rfl) | (simp only [v_X7_setFault_ok_3, if_pos c0_0]; done)) (lv_sub hl [0, 1, 2, 3] rfl) X
    · refine lv_iconst (v := 1) hx hb dX7_setFault_50 (by decide) ?_
      refine lv_goto (tgt := 55) hx hb dX7_setFault_51 (by decide) ?_
      exact J55_4 1 _ _ _ (by first | (rw [v_X7_setFault_ok_3, if_neg c0_0]; done) | (rw [v_X7_setFault_ok_3, if_neg c0_0]; rfl) | (simp only [v_X7_setFault_ok_3, if_neg c0_0]; done)) (lv_sub hl [0, 1, 2, 3] rfl) X
  refine lv_icmp_ne (tgt := 40) hx hb dX7_setFault_33 (by decide) (fun c0_0 => ?_) (fun c0_0 => ?_)
  · refine lv_iconst (v := 0) hx hb dX7_setFault_40 (by decide) ?_
    exact J41_2 0 _ _ _ (by first | (rw [v_X7_setFault_ok_1, if_neg c0_0]; done) | (rw [v_X7_setFault_ok_1, if_neg c0_0]; rfl) | (simp only [v_X7_setFault_ok_1, if_neg c0_0]; done)) (lv_sub hl [0, 1, 2] rfl) X
  · refine lv_iconst (v := 1) hx hb dX7_setFault_36 (by decide) ?_
    refine lv_goto (tgt := 41) hx hb dX7_setFault_37 (by decide) ?_
    exact J41_2 1 _ _ _ (by first | (rw [v_X7_setFault_ok_1, if_pos c0_0]; done) | (rw [v_X7_setFault_ok_1, if_pos c0_0]; rfl) | (simp only [v_X7_setFault_ok_1, if_pos c0_0]; done)) (lv_sub hl [0, 1, 2] rfl) X
def f_X7_setFault_no_o (g : F1) : F1 := (f_X7_refused_o g 1)
set_option maxHeartbeats 4000000 in
set_option maxRecDepth 100000 in
theorem c_X7_setFault_no (l : Launch) (D : va_G) (ty : Nat → ClassId) (o : Nat) (a : Nat) (b : Nat) (c_ : Nat) (g : F1) (hs : Int64) (V : Int32) (on : Int32) (hv : f_X7_isWheel V = 0) : MC l D ty yX7_setFault cX7_setFault 4 (some .boolean) 2 [.ref o, .int V, .int on] [(o, moE g hs a b c_)] (some (.int 0)) [(o, moE (f_X7_setFault_no_o g) hs a b c_)] := by
  refine mc_z (by decide +kernel) (Nat.le_of_ble_eq_true rfl) rfl ?_
  intro p e s m args below meth c A Q ls C hK hA X hret hl
  have hx := C.1
  have hb := C.2.1
  have hl : lv_has ls 4 [(0, .ref o), (1, .int V), (2, .int on)] := hl
  have X : Wd D A s.heap [(o, moE g hs a b c_)] s.heap [] := X
  refine lv_aload_n hx hb dX7_setFault_0 rfl (lv_at hl 0 rfl) ?_
  refine lv_iload_n hx hb dX7_setFault_1 rfl (lv_at hl 1 rfl) ?_
  refine s_cS0i C hK hA X (c_X7_isWheel l D ty V) [] pk_n rfl sl_X7_isWheel wm_X7_153 ⟨Nat.le_of_ble_eq_true rfl, Nat.le_of_ble_eq_true rfl⟩ ⟨Nat.zero_le _, Nat.zero_le _⟩ hl.1 rfl (Nat.le_of_ble_eq_true rfl) dX7_setFault_2 (fun H locs X => ?_)
  refine s_eqi (y := 0) (hv) ?_
  refine lv_if_eq (tgt := 12) hx hb dX7_setFault_5 (by decide) (fun _ => ?_) (fun c0 => absurd (by decide) c0)
  refine lv_iconst (v := 1) hx hb dX7_setFault_12 (by decide) ?_
  refine s_cVi (ws' := [(o, moE (f_X7_refused_o g 1) hs a b c_)]) C hK hA X (c_X7_refused l D ty o a b c_ g hs 1) [0] (pk_c rfl pk_n) rfl (pk_c rfl pk_n) (em_t em_n) rfl ml_X7_refused wm_X7_29 (q0 := 0) rfl rfl rfl ⟨Nat.le_of_ble_eq_true rfl, Nat.le_of_ble_eq_true rfl⟩ ⟨Nat.zero_le _, Nat.zero_le _⟩ hl.1 rfl (Nat.le_of_ble_eq_true rfl) dX7_setFault_13 (fun H locs X => ?_)
  refine s_eqi (y := 1) (by decide) ?_
  refine lv_if_eq (tgt := 21) hx hb dX7_setFault_16 (by decide) (fun c0 => absurd c0 (by decide)) (fun _ => ?_)
  refine lv_iconst (v := 0) hx hb dX7_setFault_19 (by decide) ?_
  have e_0_0 : (f_X7_setFault_no_o g) = (f_X7_refused_o g 1) := by first | (rw [f_X7_setFault_no_o]; done) | (rw [f_X7_setFault_no_o]; rfl) | (simp only [f_X7_setFault_no_o]; done)
  exact hret _ _ _ _ _ _ dX7_setFault_20 X (by rw [e_0_0]) rfl
def v_X7_setOn_1 (n : F1) : Int32 := (if (n 8) = 1 then 1 else 0)
def v_X7_setOn_3 (on : Int32) : Int32 := (if on = 0 then 0 else 1)
def f_X7_setOn_o (g : F1) (sv : Nat) : F1 := (f_X7_saves_o (upd g 1 0) sv)
def f_X7_setOn_a (n : F1) (on : Int32) : F1 := (upd n 8 (v_X7_setOn_3 on))
def f_X7_setOn_b (n : F1) (pa : F1) (sv : Nat) : F1 := (f_X7_saves_b n pa sv)
theorem ok_X7_setOn_a (n : F1) (on : Int32) (hM : MOK n) : MOK (f_X7_setOn_a n on) := by
  (try simp only [f_X7_setOn_a]); exact (MOK_i (by decide) hM)
set_option maxHeartbeats 4000000 in
set_option maxRecDepth 100000 in
theorem c_X7_setOn (l : Launch) (D : va_G) (ty : Nat → ClassId) (o : Nat) (a : Nat) (b : Nat) (c_ : Nat) (g : F1) (hs : Int64) (n : F1) (pa : F1) (sv : Nat) (on : Int32) (hs9 : g 0 = nI sv) (hsv : sv ≤ 3) (hM : MOK n) : MC l D ty yX7_setOn cX7_setOn 3 (some .boolean) 1 [.ref o, .int on] [(o, moE g hs a b c_), (a, arE ty 253 n), (b, arE ty 759 pa)] (some (.int (v_X7_setOn_1 n))) [(o, moE (f_X7_setOn_o g sv) hs a b c_), (a, arE ty 253 (f_X7_setOn_a n on)), (b, arE ty 759 (f_X7_setOn_b n pa sv))] := by
  refine mc_z (by decide +kernel) (Nat.le_of_ble_eq_true rfl) (and_b (by unfold v_X7_setOn_1; (repeat' split) <;> first | exact isB0 | exact isB1)) ?_
  intro p e s m args below meth c A Q ls C hK hA X hret hl
  have hx := C.1
  have hb := C.2.1
  have hl : lv_has ls 3 [(0, .ref o), (1, .int on)] := hl
  have X : Wd D A s.heap [(o, moE g hs a b c_), (a, arE ty 253 n), (b, arE ty 759 pa)] s.heap [] := X
  refine lv_aload_n hx hb dX7_setOn_0 rfl (lv_at hl 0 rfl) ?_
  refine lv_iconst (v := 0) hx hb dX7_setOn_1 (by decide) ?_
  refine put_mo_4 C hK X 0 rfl pl_X7_22 dX7_setOn_2 (fun H locs X => ?_)
  have X : Wd D A s.heap [(o, moE (upd g 1 0) hs a b c_), (a, arE ty 253 n), (b, arE ty 759 pa)] H locs := X
  refine lv_aload_n hx hb dX7_setOn_5 rfl (lv_at hl 0 rfl) ?_
  refine s_cVv (ws' := [(o, moE (f_X7_saves_o (upd g 1 0) sv) hs a b c_), (a, arE ty 253 n), (b, arE ty 759 (f_X7_saves_b n pa sv))]) C hK hA X (c_X7_saves l D ty o a b c_ (upd g 1 0) hs n pa sv ((pk_un (by decide)).trans hs9) hsv) [0, 1, 2] (pk_c rfl (pk_c rfl (pk_c rfl pk_n))) rfl (pk_c rfl (pk_c rfl (pk_c rfl pk_n))) (em_t (em_t (em_t em_n))) rfl ml_X7_saves wm_X7_143 (q0 := 0) rfl rfl rfl ⟨Nat.le_of_ble_eq_true rfl, Nat.le_of_ble_eq_true rfl⟩ ⟨Nat.zero_le _, Nat.zero_le _⟩ hl.1 rfl (Nat.le_of_ble_eq_true rfl) dX7_setOn_6 (fun H locs X => ?_)
  refine lv_aload_n hx hb dX7_setOn_9 rfl (lv_at hl 0 rfl) ?_
  refine get_mo_0 C hK X 0 rfl fl_X7_7 dX7_setOn_10 ?_
  refine lv_bipush (v := 8) hx hb dX7_setOn_13 (by decide) ?_
  refine s_ialN C hK X 1 8 rfl rfl (by decide) (by decide) dX7_setOn_15 ?_
  refine lv_iconst (v := 1) hx hb dX7_setOn_16 (by decide) ?_
  have J25_2 : ∀ (x1 : Int32) (ls : Array Slot) (H : Heap) (locs : List Loc), x1 = (v_X7_setOn_1 n) → lv_has ls 3 [(0, .ref o), (1, .int on)] → Wd D A s.heap [(o, moE (f_X7_saves_o (upd g 1 0) sv) hs a b c_), (a, arE ty 253 n), (b, arE ty 759 (f_X7_saves_b n pa sv))] H locs → W p l e (rmD 1) s m args below meth c H locs 0 0 Q (F0 m 25 ls [.int x1]) := by
    intro x1 ls H locs ex1 hl X
    replace ex1 := ex1.symm; subst ex1
    refine lv_istore_n (lv' := [(2, .int (v_X7_setOn_1 n)), (0, .ref o), (1, .int on)]) hx hb dX7_setOn_25 rfl hl (by decide) rfl (fun ls hl => ?_)
    refine lv_aload_n hx hb dX7_setOn_26 rfl (lv_at hl 1 rfl) ?_
    refine get_mo_0 C hK X 0 rfl fl_X7_7 dX7_setOn_27 ?_
    refine lv_bipush (v := 8) hx hb dX7_setOn_30 (by decide) ?_
    refine lv_iload_n hx hb dX7_setOn_32 rfl (lv_at hl 2 rfl) ?_
    have J41_4 : ∀ (x3 : Int32) (ls : Array Slot) (H : Heap) (locs : List Loc), x3 = (v_X7_setOn_3 on) → lv_has ls 3 [(2, .int (v_X7_setOn_1 n)), (0, .ref o), (1, .int on)] → Wd D A s.heap [(o, moE (f_X7_saves_o (upd g 1 0) sv) hs a b c_), (a, arE ty 253 n), (b, arE ty 759 (f_X7_saves_b n pa sv))] H locs → W p l e (rmD 1) s m args below meth c H locs 0 0 Q (F0 m 41 ls [.int x3, .int 8, .ref a]) := by
      intro x3 ls H locs ex3 hl X
      replace ex3 := ex3.symm; subst ex3
      refine s_iasN C hK X 1 8 rfl rfl (by decide) (by decide) dX7_setOn_41 (fun H locs X => ?_)
      have X : Wd D A s.heap [(o, moE (f_X7_saves_o (upd g 1 0) sv) hs a b c_), (a, arE ty 253 (upd n 8 (v_X7_setOn_3 on))), (b, arE ty 759 (f_X7_saves_b n pa sv))] H locs := X
      refine lv_iload_n hx hb dX7_setOn_42 rfl (lv_at hl 0 rfl) ?_
      have e_0_0 : (f_X7_setOn_o g sv) = (f_X7_saves_o (upd g 1 0) sv) := by first | (rw [f_X7_setOn_o]; done) | (rw [f_X7_setOn_o]; rfl) | (simp only [f_X7_setOn_o]; done)
      have e_1_0 : (f_X7_setOn_a n on) = (upd n 8 (v_X7_setOn_3 on)) := by first | (rw [f_X7_setOn_a]; done) | (rw [f_X7_setOn_a]; rfl) | (simp only [f_X7_setOn_a]; done)
      have e_2_1 : (f_X7_setOn_b n pa sv) = (f_X7_saves_b n pa sv) := by first | (rw [f_X7_setOn_b]; done) | (rw [f_X7_setOn_b]; rfl) | (simp only [f_X7_setOn_b]; done)
      exact hret _ _ _ _ _ _ dX7_setOn_43 X (by rw [e_0_0, e_1_0, e_2_1]) rfl
    refine lv_if_eq (tgt := 40) hx hb dX7_setOn_33 (by decide) (fun c0_0 => ?_) (fun c0_0 => ?_)
    · refine lv_iconst (v := 0) hx hb dX7_setOn_40 (by decide) ?_
      exact J41_4 0 _ _ _ (by first | (rw [v_X7_setOn_3, if_pos c0_0]; done) | (rw [v_X7_setOn_3, if_pos c0_0]; rfl) | (simp only [v_X7_setOn_3, if_pos c0_0]; done)) (lv_sub hl [0, 1, 2] rfl) X
    · refine lv_iconst (v := 1) hx hb dX7_setOn_36 (by decide) ?_
      refine lv_goto (tgt := 41) hx hb dX7_setOn_37 (by decide) ?_
      exact J41_4 1 _ _ _ (by first | (rw [v_X7_setOn_3, if_neg c0_0]; done) | (rw [v_X7_setOn_3, if_neg c0_0]; rfl) | (simp only [v_X7_setOn_3, if_neg c0_0]; done)) (lv_sub hl [0, 1, 2] rfl) X
  refine lv_icmp_ne (tgt := 24) hx hb dX7_setOn_17 (by decide) (fun c0_0 => ?_) (fun c0_0 => ?_)
  · refine lv_iconst (v := 0) hx hb dX7_setOn_24 (by decide) ?_
    exact J25_2 0 _ _ _ (by first | (rw [v_X7_setOn_1, if_neg c0_0]; done) | (rw [v_X7_setOn_1, if_neg c0_0]; rfl) | (simp only [v_X7_setOn_1, if_neg c0_0]; done)) (lv_sub hl [0, 1] rfl) X
  · refine lv_iconst (v := 1) hx hb dX7_setOn_20 (by decide) ?_
    refine lv_goto (tgt := 25) hx hb dX7_setOn_21 (by decide) ?_
    exact J25_2 1 _ _ _ (by first | (rw [v_X7_setOn_1, if_pos c0_0]; done) | (rw [v_X7_setOn_1, if_pos c0_0]; rfl) | (simp only [v_X7_setOn_1, if_pos c0_0]; done)) (lv_sub hl [0, 1] rfl) X
def v_X7_repair_1 (n : F1) : F1 := (f_X7_sets_a (f_X7_sets_a (f_X7_sets_a (f_X7_sets_a (f_X7_sets_a n 0 17) 0 18) 0 33) 0 34) 0 49)
theorem okm_X7_repair_2 (n : F1) (hM : MOK n) : MOK (v_X7_repair_1 n) := by
  exact (MOK_w (j := 2) (k := 7) (by omega) (by decide) (MOK_w (j := 1) (k := 8) (by omega) (by decide) (MOK_w (j := 1) (k := 7) (by omega) (by decide) (MOK_w (j := 0) (k := 8) (by omega) (by decide) (MOK_w (j := 0) (k := 7) (by omega) (by decide) hM)))))
def f_X7_repair_o (g : F1) (sv : Nat) : F1 := (f_X7_saves_o (upd g 1 0) sv)
def f_X7_repair_a (n : F1) : F1 := (f_X7_sets_a (f_X7_sets_a (f_X7_sets_a (v_X7_repair_1 n) 0 50) 0 65) 0 66)
def f_X7_repair_b (n : F1) (pa : F1) (sv : Nat) : F1 := (f_X7_saves_b n pa sv)
theorem ok_X7_repair_a (n : F1) (hM : MOK n) : MOK (f_X7_repair_a n) := by
  (try simp only [f_X7_repair_a]); exact (MOK_w (j := 3) (k := 8) (by omega) (by decide) (MOK_w (j := 3) (k := 7) (by omega) (by decide) (MOK_w (j := 2) (k := 8) (by omega) (by decide) (okm_X7_repair_2 n hM))))
set_option maxHeartbeats 4000000 in
set_option maxRecDepth 100000 in
theorem c_X7_repair (l : Launch) (D : va_G) (ty : Nat → ClassId) (o : Nat) (a : Nat) (b : Nat) (c_ : Nat) (g : F1) (hs : Int64) (n : F1) (pa : F1) (sv : Nat) (hs9 : g 0 = nI sv) (hsv : sv ≤ 3) (hM : MOK n) : MC l D ty yX7_repair cX7_repair 3 (some .int) 3 [.ref o] [(o, moE g hs a b c_), (a, arE ty 253 n), (b, arE ty 759 pa)] (some (.int (f_X7_outs n))) [(o, moE (f_X7_repair_o g sv) hs a b c_), (a, arE ty 253 (f_X7_repair_a n)), (b, arE ty 759 (f_X7_repair_b n pa sv))] := by
  refine mc_i (by decide +kernel) (Nat.le_of_ble_eq_true rfl) ?_
  intro p e s m args below meth c A Q ls C hK hA X hret hl
  have hx := C.1
  have hb := C.2.1
  have hl : lv_has ls 3 [(0, .ref o)] := hl
  have X : Wd D A s.heap [(o, moE g hs a b c_), (a, arE ty 253 n), (b, arE ty 759 pa)] s.heap [] := X
  refine lv_aload_n hx hb dX7_repair_0 rfl (lv_at hl 0 rfl) ?_
  refine lv_iconst (v := 0) hx hb dX7_repair_1 (by decide) ?_
  refine put_mo_4 C hK X 0 rfl pl_X7_22 dX7_repair_2 (fun H locs X => ?_)
  have X : Wd D A s.heap [(o, moE (upd g 1 0) hs a b c_), (a, arE ty 253 n), (b, arE ty 759 pa)] H locs := X
  refine lv_aload_n hx hb dX7_repair_5 rfl (lv_at hl 0 rfl) ?_
  refine s_cVv (ws' := [(o, moE (f_X7_saves_o (upd g 1 0) sv) hs a b c_), (a, arE ty 253 n), (b, arE ty 759 (f_X7_saves_b n pa sv))]) C hK hA X (c_X7_saves l D ty o a b c_ (upd g 1 0) hs n pa sv ((pk_un (by decide)).trans hs9) hsv) [0, 1, 2] (pk_c rfl (pk_c rfl (pk_c rfl pk_n))) rfl (pk_c rfl (pk_c rfl (pk_c rfl pk_n))) (em_t (em_t (em_t em_n))) rfl ml_X7_saves wm_X7_143 (q0 := 0) rfl rfl rfl ⟨Nat.le_of_ble_eq_true rfl, Nat.le_of_ble_eq_true rfl⟩ ⟨Nat.zero_le _, Nat.zero_le _⟩ hl.1 rfl (Nat.le_of_ble_eq_true rfl) dX7_repair_6 (fun H locs X => ?_)
  refine lv_aload_n hx hb dX7_repair_9 rfl (lv_at hl 0 rfl) ?_
  refine s_cV0i C hK hA X (c_X7_outs l D ty o a b c_ (f_X7_saves_o (upd g 1 0) sv) hs n) [0, 1] (pk_c rfl (pk_c rfl pk_n)) rfl ml_X7_outs wm_X7_80 (q0 := 0) rfl rfl rfl ⟨Nat.le_of_ble_eq_true rfl, Nat.le_of_ble_eq_true rfl⟩ ⟨Nat.zero_le _, Nat.zero_le _⟩ hl.1 rfl (Nat.le_of_ble_eq_true rfl) dX7_repair_10 (fun H locs X => ?_)
  refine lv_istore_n (lv' := [(1, .int (f_X7_outs n)), (0, .ref o)]) hx hb dX7_repair_13 rfl hl (by decide) rfl (fun ls hl => ?_)
  refine lv_iconst (v := 0) hx hb dX7_repair_14 (by decide) ?_
  refine lv_istore_n (lv' := [(2, .int 0), (1, .int (f_X7_outs n)), (0, .ref o)]) hx hb dX7_repair_15 rfl hl (by decide) rfl (fun ls hl => ?_)
  refine lv_iload_n hx hb dX7_repair_16 rfl (lv_at hl 0 rfl) ?_
  refine lv_iconst (v := 4) hx hb dX7_repair_17 (by decide) ?_
  refine lv_icmp_ge (tgt := 43) hx hb dX7_repair_18 (by decide) (fun c0 => absurd c0 (by decide)) (fun _ => ?_)
  refine lv_aload_n hx hb dX7_repair_21 rfl (lv_at hl 2 rfl) ?_
  refine lv_iload_n hx hb dX7_repair_22 rfl (lv_at hl 0 rfl) ?_
  refine lv_bipush (v := 7) hx hb dX7_repair_23 (by decide) ?_
  refine lv_iconst (v := 0) hx hb dX7_repair_25 (by decide) ?_
  refine s_cVv (ws' := [(o, moE (f_X7_saves_o (upd g 1 0) sv) hs a b c_), (a, arE ty 253 (f_X7_sets_a n 0 17)), (b, arE ty 759 (f_X7_saves_b n pa sv))]) C hK hA X (c_X7_sets l D ty o a b c_ (f_X7_saves_o (upd g 1 0) sv) hs n 0 7 0 17 (by decide) (by decide)) [0, 1] (pk_c rfl (pk_c rfl pk_n)) rfl (pk_c rfl (pk_c rfl pk_n)) (em_t (em_t (em_f em_n))) rfl ml_X7_sets wm_X7_59 (q0 := 0) rfl rfl rfl ⟨Nat.le_of_ble_eq_true rfl, Nat.le_of_ble_eq_true rfl⟩ ⟨Nat.zero_le _, Nat.zero_le _⟩ hl.1 rfl (Nat.le_of_ble_eq_true rfl) dX7_repair_26 (fun H locs X => ?_)
  refine lv_aload_n hx hb dX7_repair_29 rfl (lv_at hl 2 rfl) ?_
  refine lv_iload_n hx hb dX7_repair_30 rfl (lv_at hl 0 rfl) ?_
  refine lv_bipush (v := 8) hx hb dX7_repair_31 (by decide) ?_
  refine lv_iconst (v := 0) hx hb dX7_repair_33 (by decide) ?_
  refine s_cVv (ws' := [(o, moE (f_X7_saves_o (upd g 1 0) sv) hs a b c_), (a, arE ty 253 (f_X7_sets_a (f_X7_sets_a n 0 17) 0 18)), (b, arE ty 759 (f_X7_saves_b n pa sv))]) C hK hA X (c_X7_sets l D ty o a b c_ (f_X7_saves_o (upd g 1 0) sv) hs (f_X7_sets_a n 0 17) 0 8 0 18 (by decide) (by decide)) [0, 1] (pk_c rfl (pk_c rfl pk_n)) rfl (pk_c rfl (pk_c rfl pk_n)) (em_t (em_t (em_f em_n))) rfl ml_X7_sets wm_X7_59 (q0 := 0) rfl rfl rfl ⟨Nat.le_of_ble_eq_true rfl, Nat.le_of_ble_eq_true rfl⟩ ⟨Nat.zero_le _, Nat.zero_le _⟩ hl.1 rfl (Nat.le_of_ble_eq_true rfl) dX7_repair_34 (fun H locs X => ?_)
  refine lv_iinc (v := 1) (lv' := [(2, .int 1), (1, .int (f_X7_outs n)), (0, .ref o)]) hx hb dX7_repair_37 hl (k := 0) rfl (by decide) (by decide) rfl (fun ls hl => ?_)
  refine lv_goto (tgt := 16) hx hb dX7_repair_40 (by decide) ?_
  refine lv_iload_n hx hb dX7_repair_16 rfl (lv_at hl 0 rfl) ?_
  refine lv_iconst (v := 4) hx hb dX7_repair_17 (by decide) ?_
  refine lv_icmp_ge (tgt := 43) hx hb dX7_repair_18 (by decide) (fun c0 => absurd c0 (by decide)) (fun _ => ?_)
  refine lv_aload_n hx hb dX7_repair_21 rfl (lv_at hl 2 rfl) ?_
  refine lv_iload_n hx hb dX7_repair_22 rfl (lv_at hl 0 rfl) ?_
  refine lv_bipush (v := 7) hx hb dX7_repair_23 (by decide) ?_
  refine lv_iconst (v := 0) hx hb dX7_repair_25 (by decide) ?_
  refine s_cVv (ws' := [(o, moE (f_X7_saves_o (upd g 1 0) sv) hs a b c_), (a, arE ty 253 (f_X7_sets_a (f_X7_sets_a (f_X7_sets_a n 0 17) 0 18) 0 33)), (b, arE ty 759 (f_X7_saves_b n pa sv))]) C hK hA X (c_X7_sets l D ty o a b c_ (f_X7_saves_o (upd g 1 0) sv) hs (f_X7_sets_a (f_X7_sets_a n 0 17) 0 18) 1 7 0 33 (by decide) (by decide)) [0, 1] (pk_c rfl (pk_c rfl pk_n)) rfl (pk_c rfl (pk_c rfl pk_n)) (em_t (em_t (em_f em_n))) rfl ml_X7_sets wm_X7_59 (q0 := 0) rfl rfl rfl ⟨Nat.le_of_ble_eq_true rfl, Nat.le_of_ble_eq_true rfl⟩ ⟨Nat.zero_le _, Nat.zero_le _⟩ hl.1 rfl (Nat.le_of_ble_eq_true rfl) dX7_repair_26 (fun H locs X => ?_)
  refine lv_aload_n hx hb dX7_repair_29 rfl (lv_at hl 2 rfl) ?_
  refine lv_iload_n hx hb dX7_repair_30 rfl (lv_at hl 0 rfl) ?_
  refine lv_bipush (v := 8) hx hb dX7_repair_31 (by decide) ?_
  refine lv_iconst (v := 0) hx hb dX7_repair_33 (by decide) ?_
  refine s_cVv (ws' := [(o, moE (f_X7_saves_o (upd g 1 0) sv) hs a b c_), (a, arE ty 253 (f_X7_sets_a (f_X7_sets_a (f_X7_sets_a (f_X7_sets_a n 0 17) 0 18) 0 33) 0 34)), (b, arE ty 759 (f_X7_saves_b n pa sv))]) C hK hA X (c_X7_sets l D ty o a b c_ (f_X7_saves_o (upd g 1 0) sv) hs (f_X7_sets_a (f_X7_sets_a (f_X7_sets_a n 0 17) 0 18) 0 33) 1 8 0 34 (by decide) (by decide)) [0, 1] (pk_c rfl (pk_c rfl pk_n)) rfl (pk_c rfl (pk_c rfl pk_n)) (em_t (em_t (em_f em_n))) rfl ml_X7_sets wm_X7_59 (q0 := 0) rfl rfl rfl ⟨Nat.le_of_ble_eq_true rfl, Nat.le_of_ble_eq_true rfl⟩ ⟨Nat.zero_le _, Nat.zero_le _⟩ hl.1 rfl (Nat.le_of_ble_eq_true rfl) dX7_repair_34 (fun H locs X => ?_)
  refine lv_iinc (v := 2) (lv' := [(2, .int 2), (1, .int (f_X7_outs n)), (0, .ref o)]) hx hb dX7_repair_37 hl (k := 0) rfl (by decide) (by decide) rfl (fun ls hl => ?_)
  refine lv_goto (tgt := 16) hx hb dX7_repair_40 (by decide) ?_
  refine lv_iload_n hx hb dX7_repair_16 rfl (lv_at hl 0 rfl) ?_
  refine lv_iconst (v := 4) hx hb dX7_repair_17 (by decide) ?_
  refine lv_icmp_ge (tgt := 43) hx hb dX7_repair_18 (by decide) (fun c0 => absurd c0 (by decide)) (fun _ => ?_)
  refine lv_aload_n hx hb dX7_repair_21 rfl (lv_at hl 2 rfl) ?_
  refine lv_iload_n hx hb dX7_repair_22 rfl (lv_at hl 0 rfl) ?_
  refine lv_bipush (v := 7) hx hb dX7_repair_23 (by decide) ?_
  refine lv_iconst (v := 0) hx hb dX7_repair_25 (by decide) ?_
  refine s_cVv (ws' := [(o, moE (f_X7_saves_o (upd g 1 0) sv) hs a b c_), (a, arE ty 253 (v_X7_repair_1 n)), (b, arE ty 759 (f_X7_saves_b n pa sv))]) C hK hA X (c_X7_sets l D ty o a b c_ (f_X7_saves_o (upd g 1 0) sv) hs (f_X7_sets_a (f_X7_sets_a (f_X7_sets_a (f_X7_sets_a n 0 17) 0 18) 0 33) 0 34) 2 7 0 49 (by decide) (by decide)) [0, 1] (pk_c rfl (pk_c rfl pk_n)) rfl (pk_c rfl (pk_c rfl pk_n)) (em_t (em_t (em_f em_n))) rfl ml_X7_sets wm_X7_59 (q0 := 0) rfl rfl rfl ⟨Nat.le_of_ble_eq_true rfl, Nat.le_of_ble_eq_true rfl⟩ ⟨Nat.zero_le _, Nat.zero_le _⟩ hl.1 rfl (Nat.le_of_ble_eq_true rfl) dX7_repair_26 (fun H locs X => ?_)
  refine lv_aload_n hx hb dX7_repair_29 rfl (lv_at hl 2 rfl) ?_
  refine lv_iload_n hx hb dX7_repair_30 rfl (lv_at hl 0 rfl) ?_
  refine lv_bipush (v := 8) hx hb dX7_repair_31 (by decide) ?_
  refine lv_iconst (v := 0) hx hb dX7_repair_33 (by decide) ?_
  refine s_cVv (ws' := [(o, moE (f_X7_saves_o (upd g 1 0) sv) hs a b c_), (a, arE ty 253 (f_X7_sets_a (v_X7_repair_1 n) 0 50)), (b, arE ty 759 (f_X7_saves_b n pa sv))]) C hK hA X (c_X7_sets l D ty o a b c_ (f_X7_saves_o (upd g 1 0) sv) hs (v_X7_repair_1 n) 2 8 0 50 (by decide) (by decide)) [0, 1] (pk_c rfl (pk_c rfl pk_n)) rfl (pk_c rfl (pk_c rfl pk_n)) (em_t (em_t (em_f em_n))) rfl ml_X7_sets wm_X7_59 (q0 := 0) rfl rfl rfl ⟨Nat.le_of_ble_eq_true rfl, Nat.le_of_ble_eq_true rfl⟩ ⟨Nat.zero_le _, Nat.zero_le _⟩ hl.1 rfl (Nat.le_of_ble_eq_true rfl) dX7_repair_34 (fun H locs X => ?_)
  refine lv_iinc (v := 3) (lv' := [(2, .int 3), (1, .int (f_X7_outs n)), (0, .ref o)]) hx hb dX7_repair_37 hl (k := 0) rfl (by decide) (by decide) rfl (fun ls hl => ?_)
  refine lv_goto (tgt := 16) hx hb dX7_repair_40 (by decide) ?_
  refine lv_iload_n hx hb dX7_repair_16 rfl (lv_at hl 0 rfl) ?_
  refine lv_iconst (v := 4) hx hb dX7_repair_17 (by decide) ?_
  refine lv_icmp_ge (tgt := 43) hx hb dX7_repair_18 (by decide) (fun c0 => absurd c0 (by decide)) (fun _ => ?_)
  refine lv_aload_n hx hb dX7_repair_21 rfl (lv_at hl 2 rfl) ?_
  refine lv_iload_n hx hb dX7_repair_22 rfl (lv_at hl 0 rfl) ?_
  refine lv_bipush (v := 7) hx hb dX7_repair_23 (by decide) ?_
  refine lv_iconst (v := 0) hx hb dX7_repair_25 (by decide) ?_
  refine s_cVv (ws' := [(o, moE (f_X7_saves_o (upd g 1 0) sv) hs a b c_), (a, arE ty 253 (f_X7_sets_a (f_X7_sets_a (v_X7_repair_1 n) 0 50) 0 65)), (b, arE ty 759 (f_X7_saves_b n pa sv))]) C hK hA X (c_X7_sets l D ty o a b c_ (f_X7_saves_o (upd g 1 0) sv) hs (f_X7_sets_a (v_X7_repair_1 n) 0 50) 3 7 0 65 (by decide) (by decide)) [0, 1] (pk_c rfl (pk_c rfl pk_n)) rfl (pk_c rfl (pk_c rfl pk_n)) (em_t (em_t (em_f em_n))) rfl ml_X7_sets wm_X7_59 (q0 := 0) rfl rfl rfl ⟨Nat.le_of_ble_eq_true rfl, Nat.le_of_ble_eq_true rfl⟩ ⟨Nat.zero_le _, Nat.zero_le _⟩ hl.1 rfl (Nat.le_of_ble_eq_true rfl) dX7_repair_26 (fun H locs X => ?_)
  refine lv_aload_n hx hb dX7_repair_29 rfl (lv_at hl 2 rfl) ?_
  refine lv_iload_n hx hb dX7_repair_30 rfl (lv_at hl 0 rfl) ?_
  refine lv_bipush (v := 8) hx hb dX7_repair_31 (by decide) ?_
  refine lv_iconst (v := 0) hx hb dX7_repair_33 (by decide) ?_
  refine s_cVv (ws' := [(o, moE (f_X7_saves_o (upd g 1 0) sv) hs a b c_), (a, arE ty 253 (f_X7_sets_a (f_X7_sets_a (f_X7_sets_a (v_X7_repair_1 n) 0 50) 0 65) 0 66)), (b, arE ty 759 (f_X7_saves_b n pa sv))]) C hK hA X (c_X7_sets l D ty o a b c_ (f_X7_saves_o (upd g 1 0) sv) hs (f_X7_sets_a (f_X7_sets_a (v_X7_repair_1 n) 0 50) 0 65) 3 8 0 66 (by decide) (by decide)) [0, 1] (pk_c rfl (pk_c rfl pk_n)) rfl (pk_c rfl (pk_c rfl pk_n)) (em_t (em_t (em_f em_n))) rfl ml_X7_sets wm_X7_59 (q0 := 0) rfl rfl rfl ⟨Nat.le_of_ble_eq_true rfl, Nat.le_of_ble_eq_true rfl⟩ ⟨Nat.zero_le _, Nat.zero_le _⟩ hl.1 rfl (Nat.le_of_ble_eq_true rfl) dX7_repair_34 (fun H locs X => ?_)
  refine lv_iinc (v := 4) (lv' := [(2, .int 4), (1, .int (f_X7_outs n)), (0, .ref o)]) hx hb dX7_repair_37 hl (k := 0) rfl (by decide) (by decide) rfl (fun ls hl => ?_)
  refine lv_goto (tgt := 16) hx hb dX7_repair_40 (by decide) ?_
  refine lv_iload_n hx hb dX7_repair_16 rfl (lv_at hl 0 rfl) ?_
  refine lv_iconst (v := 4) hx hb dX7_repair_17 (by decide) ?_
  refine lv_icmp_ge (tgt := 43) hx hb dX7_repair_18 (by decide) (fun _ => ?_) (fun c0 => absurd (by decide) c0)
  refine lv_iload_n hx hb dX7_repair_43 rfl (lv_at hl 1 rfl) ?_
  have e_0_0 : (f_X7_repair_o g sv) = (f_X7_saves_o (upd g 1 0) sv) := by first | (rw [f_X7_repair_o]; done) | (rw [f_X7_repair_o]; rfl) | (simp only [f_X7_repair_o]; done)
  have e_1_0 : (f_X7_repair_a n) = (f_X7_sets_a (f_X7_sets_a (f_X7_sets_a (v_X7_repair_1 n) 0 50) 0 65) 0 66) := by first | (rw [f_X7_repair_a]; done) | (rw [f_X7_repair_a]; rfl) | (simp only [f_X7_repair_a]; done)
  have e_2_1 : (f_X7_repair_b n pa sv) = (f_X7_saves_b n pa sv) := by first | (rw [f_X7_repair_b]; done) | (rw [f_X7_repair_b]; rfl) | (simp only [f_X7_repair_b]; done)
  exact hret _ _ _ _ _ _ dX7_repair_44 X (by rw [e_0_0, e_1_0, e_2_1]) rfl
def mtN (n : F1) : Nat → F1
  | 0 => n
  | i + 1 => (v_X7_tickOn_31 (mtN n i))
theorem mtN_ok {n : F1} (h : MOK n) : ∀ i, MOK (mtN n i)
  | 0 => h
  | i + 1 => ok_X7_tickOn_a (mtN n i) (mtN_ok h i)
def mtP (n : F1) : Nat → Bool := fun i => decide (¬ (mtN n i) 0 ≤ 0)
def mtK (n : F1) : Nat := scanB (mtP n) 5000 0
def f_X7_run_ok (n : F1) (kt : Nat) : Int32 := ((mtN n kt) 0)
def f_X7_run_ok_o (g : F1) (sv : Nat) : F1 := (f_X7_saves_o (f_X7_refused_o g 0) sv)
def f_X7_run_ok_a (n : F1) (kt : Nat) : F1 := (mtN n kt)
def f_X7_run_ok_b (n : F1) (pa : F1) (sv : Nat) : F1 := (f_X7_saves_b n pa sv)
theorem ok_X7_run_ok_a (n : F1) (kt : Nat) (hM : MOK n) : MOK (f_X7_run_ok_a n kt) := mtN_ok hM kt
set_option maxHeartbeats 4000000 in
set_option maxRecDepth 100000 in
theorem c_X7_run_ok (l : Launch) (D : va_G) (ty : Nat → ClassId) (o : Nat) (a : Nat) (b : Nat) (c_ : Nat) (g : F1) (hs : Int64) (n : F1) (pa : F1) (sv : Nat) (kt : Nat) (hs9 : g 0 = nI sv) (hsv : sv ≤ 3) (hM : MOK n) (hkt : kt ≤ 1000) (hv : f_X7_within (nI kt) 1 1000 = 1) : MC l D ty yX7_run cX7_run 3 (some .int) 9 [.ref o, .int (nI kt)] [(o, moE g hs a b c_), (a, arE ty 253 n), (b, arE ty 759 pa)] (some (.int (f_X7_run_ok n kt))) [(o, moE (f_X7_run_ok_o g sv) hs a b c_), (a, arE ty 253 (f_X7_run_ok_a n kt)), (b, arE ty 759 (f_X7_run_ok_b n pa sv))] := by
  refine mc_i (by decide +kernel) (Nat.le_of_ble_eq_true rfl) ?_
  intro p e s m args below meth c A Q ls C hK hA X hret hl
  have hx := C.1
  have hb := C.2.1
  have hl : lv_has ls 3 [(0, .ref o), (1, .int (nI kt))] := hl
  have X : Wd D A s.heap [(o, moE g hs a b c_), (a, arE ty 253 n), (b, arE ty 759 pa)] s.heap [] := X
  refine lv_aload_n hx hb dX7_run_0 rfl (lv_at hl 0 rfl) ?_
  refine lv_iload_n hx hb dX7_run_1 rfl (lv_at hl 1 rfl) ?_
  refine lv_iconst (v := 1) hx hb dX7_run_2 (by decide) ?_
  refine lv_sipush (v := 1000) hx hb dX7_run_3 (by decide) ?_
  refine s_cS0i C hK hA X (c_X7_within l D ty (nI kt) 1 1000) [] pk_n rfl sl_X7_within wm_X7_37 ⟨Nat.le_of_ble_eq_true rfl, Nat.le_of_ble_eq_true rfl⟩ ⟨Nat.zero_le _, Nat.zero_le _⟩ hl.1 rfl (Nat.le_of_ble_eq_true rfl) dX7_run_6 (fun H locs X => ?_)
  refine s_eqi (y := 1) (hv) ?_
  refine lv_if_eq (tgt := 16) hx hb dX7_run_9 (by decide) (fun c0 => absurd c0 (by decide)) (fun _ => ?_)
  refine lv_iconst (v := 0) hx hb dX7_run_12 (by decide) ?_
  refine lv_goto (tgt := 17) hx hb dX7_run_13 (by decide) ?_
  refine s_cVi (ws' := [(o, moE (f_X7_refused_o g 0) hs a b c_), (a, arE ty 253 n), (b, arE ty 759 pa)]) C hK hA X (c_X7_refused l D ty o a b c_ g hs 0) [0] (pk_c rfl pk_n) rfl (pk_c rfl pk_n) (em_t (em_f (em_f em_n))) rfl ml_X7_refused wm_X7_29 (q0 := 0) rfl rfl rfl ⟨Nat.le_of_ble_eq_true rfl, Nat.le_of_ble_eq_true rfl⟩ ⟨Nat.zero_le _, Nat.zero_le _⟩ hl.1 rfl (Nat.le_of_ble_eq_true rfl) dX7_run_17 (fun H locs X => ?_)
  refine s_eqi (y := 0) (by decide) ?_
  refine lv_if_eq (tgt := 25) hx hb dX7_run_20 (by decide) (fun _ => ?_) (fun c0 => absurd (by decide) c0)
  refine lv_aload_n hx hb dX7_run_25 rfl (lv_at hl 0 rfl) ?_
  refine s_cVv (ws' := [(o, moE (f_X7_saves_o (f_X7_refused_o g 0) sv) hs a b c_), (a, arE ty 253 n), (b, arE ty 759 (f_X7_saves_b n pa sv))]) C hK hA X (c_X7_saves l D ty o a b c_ (f_X7_refused_o g 0) hs n pa sv ((pk_un (by decide)).trans hs9) hsv) [0, 1, 2] (pk_c rfl (pk_c rfl (pk_c rfl pk_n))) rfl (pk_c rfl (pk_c rfl (pk_c rfl pk_n))) (em_t (em_t (em_t em_n))) rfl ml_X7_saves wm_X7_143 (q0 := 0) rfl rfl rfl ⟨Nat.le_of_ble_eq_true rfl, Nat.le_of_ble_eq_true rfl⟩ ⟨Nat.zero_le _, Nat.zero_le _⟩ hl.1 rfl (Nat.le_of_ble_eq_true rfl) dX7_run_26 (fun H locs X => ?_)
  refine lv_iconst (v := 0) hx hb dX7_run_29 (by decide) ?_
  refine lv_istore_n (lv' := [(2, .int 0), (0, .ref o), (1, .int (nI kt))]) hx hb dX7_run_30 rfl hl (by decide) rfl (fun ls hl => ?_)
  have K1 : ∀ (y1_0 : Int32) (y1_1 : F1) (ls : Array Slot) (H : Heap) (locs : List Loc), y1_0 = (nI kt) → y1_1 = (mtN n kt) → lv_has ls 3 [(2, .int y1_0), (0, .ref o), (1, .int (nI kt))] → Wd D A s.heap [(o, moE (f_X7_saves_o (f_X7_refused_o g 0) sv) hs a b c_), (a, arE ty 253 y1_1), (b, arE ty 759 (f_X7_saves_b n pa sv))] H locs → W p l e (rmD 9) s m args below meth c H locs 0 0 Q (F0 m 46 ls []) := by
    intro y1_0 y1_1 ls H locs ey1_0 ey1_1 hl X
    replace ey1_0 := ey1_0.symm; subst ey1_0; replace ey1_1 := ey1_1.symm; subst ey1_1
    refine lv_aload_n hx hb dX7_run_46 rfl (lv_at hl 1 rfl) ?_
    refine get_mo_0 C hK X 0 rfl fl_X7_7 dX7_run_47 ?_
    refine lv_iconst (v := 0) hx hb dX7_run_50 (by decide) ?_
    refine s_ialN C hK X 1 0 rfl rfl (by decide) (by decide) dX7_run_51 ?_
    have e_0_0 : (f_X7_run_ok_o g sv) = (f_X7_saves_o (f_X7_refused_o g 0) sv) := by first | (rw [f_X7_run_ok_o]; done) | (rw [f_X7_run_ok_o]; rfl) | (simp only [f_X7_run_ok_o]; done)
    have e_1_0 : (f_X7_run_ok_a n kt) = (mtN n kt) := by first | (rw [f_X7_run_ok_a]; done) | (rw [f_X7_run_ok_a]; rfl) | (simp only [f_X7_run_ok_a]; done)
    have e_2_1 : (f_X7_run_ok_b n pa sv) = (f_X7_saves_b n pa sv) := by first | (rw [f_X7_run_ok_b]; done) | (rw [f_X7_run_ok_b]; rfl) | (simp only [f_X7_run_ok_b]; done)
    exact hret _ _ _ _ _ _ dX7_run_52 X (by rw [e_0_0, e_1_0, e_2_1]) (by first | (rw [f_X7_run_ok]; done) | (rw [f_X7_run_ok]; rfl) | (simp only [f_X7_run_ok]; done))
  have L1 : ∀ (kf i : Nat) (y1_0 : Int32) (y1_1 : F1) (ls : Array Slot) (H : Heap) (locs : List Loc), kt - i < kf → (i ≤ kt) → y1_0 = (nI i) → y1_1 = (mtN n i) → lv_has ls 3 [(2, .int y1_0), (0, .ref o), (1, .int (nI kt))] → Wd D A s.heap [(o, moE (f_X7_saves_o (f_X7_refused_o g 0) sv) hs a b c_), (a, arE ty 253 y1_1), (b, arE ty 759 (f_X7_saves_b n pa sv))] H locs → W p l e (rmD 9) s m args below meth c H locs 0 0 Q (F0 m 31 ls []) := by
    intro kf
    induction kf with
    | zero => intro i y1_0 y1_1 ls H locs hk; exact absurd hk (Nat.not_lt_zero _)
    | succ kf ih1 =>
      intro i y1_0 y1_1 ls H locs hk hI ey1_0 ey1_1 hl X
      replace ey1_0 := ey1_0.symm; subst ey1_0; replace ey1_1 := ey1_1.symm; subst ey1_1
      have hT : MOK (mtN n i) := mtN_ok hM i
      refine lv_iload_n hx hb dX7_run_31 rfl (lv_at hl 0 rfl) ?_
      refine lv_iload_n hx hb dX7_run_32 rfl (lv_at hl 2 rfl) ?_
      refine lv_icmp_ge (tgt := 46) hx hb dX7_run_33 (by decide) (fun c0_0 => ?_) (fun c0_0 => ?_)
      · have hE : i = kt := eq_of_nIle (by omega) (by omega) hI c0_0
        exact K1 (nI i) (mtN n i) _ _ _ (by rw [hE]) (by rw [hE]) (lv_sub hl [0, 1, 2] rfl) X
      · refine lv_aload_n hx hb dX7_run_36 rfl (lv_at hl 1 rfl) ?_
        refine s_cVv (ws' := [(o, moE (f_X7_saves_o (f_X7_refused_o g 0) sv) hs a b c_), (a, arE ty 253 (v_X7_tickOn_31 (mtN n i))), (b, arE ty 759 (f_X7_saves_b n pa sv))]) C hK hA X (c_X7_tickOn l D ty o a b c_ (f_X7_saves_o (f_X7_refused_o g 0) sv) hs (mtN n i) hT) [0, 1] (pk_c rfl (pk_c rfl pk_n)) rfl (pk_c rfl (pk_c rfl pk_n)) (em_t (em_t (em_f em_n))) rfl ml_X7_tickOn wm_X7_156 (q0 := 0) rfl rfl rfl ⟨Nat.le_of_ble_eq_true rfl, Nat.le_of_ble_eq_true rfl⟩ ⟨Nat.zero_le _, Nat.zero_le _⟩ hl.1 rfl (Nat.le_of_ble_eq_true rfl) dX7_run_37 (fun H locs X => ?_)
        refine lv_iinc (v := ((nI i) + 1)) (lv' := [(2, .int ((nI i) + 1)), (0, .ref o), (1, .int (nI kt))]) hx hb dX7_run_40 hl (k := 0) rfl rfl (by decide) rfl (fun ls hl => ?_)
        refine lv_goto (tgt := 31) hx hb dX7_run_43 (by decide) ?_
        have h1 : i < kt := lt_of_nnIle (by omega) (by omega) c0_0
        exact ih1 (i + 1) ((nI i) + 1) (v_X7_tickOn_31 (mtN n i)) _ _ _ (by omega) (by omega) (nI_1 i) rfl (lv_sub hl [0, 1, 2] rfl) X
  exact L1 (kt + 1) 0 0 n _ _ _ (by omega) (Nat.zero_le _) rfl rfl (lv_sub hl [0, 1, 2] rfl) X
def f_X7_run_no_o (g : F1) : F1 := (f_X7_refused_o g 1)
set_option maxHeartbeats 4000000 in
set_option maxRecDepth 100000 in
theorem c_X7_run_no (l : Launch) (D : va_G) (ty : Nat → ClassId) (o : Nat) (a : Nat) (b : Nat) (c_ : Nat) (g : F1) (hs : Int64) (V : Int32) (hv : f_X7_within V 1 1000 = 0) : MC l D ty yX7_run cX7_run 3 (some .int) 1 [.ref o, .int V] [(o, moE g hs a b c_)] (some (.int 0)) [(o, moE (f_X7_run_no_o g) hs a b c_)] := by
  refine mc_i (by decide +kernel) (Nat.le_of_ble_eq_true rfl) ?_
  intro p e s m args below meth c A Q ls C hK hA X hret hl
  have hx := C.1
  have hb := C.2.1
  have hl : lv_has ls 3 [(0, .ref o), (1, .int V)] := hl
  have X : Wd D A s.heap [(o, moE g hs a b c_)] s.heap [] := X
  refine lv_aload_n hx hb dX7_run_0 rfl (lv_at hl 0 rfl) ?_
  refine lv_iload_n hx hb dX7_run_1 rfl (lv_at hl 1 rfl) ?_
  refine lv_iconst (v := 1) hx hb dX7_run_2 (by decide) ?_
  refine lv_sipush (v := 1000) hx hb dX7_run_3 (by decide) ?_
  refine s_cS0i C hK hA X (c_X7_within l D ty V 1 1000) [] pk_n rfl sl_X7_within wm_X7_37 ⟨Nat.le_of_ble_eq_true rfl, Nat.le_of_ble_eq_true rfl⟩ ⟨Nat.zero_le _, Nat.zero_le _⟩ hl.1 rfl (Nat.le_of_ble_eq_true rfl) dX7_run_6 (fun H locs X => ?_)
  refine s_eqi (y := 0) (hv) ?_
  refine lv_if_eq (tgt := 16) hx hb dX7_run_9 (by decide) (fun _ => ?_) (fun c0 => absurd (by decide) c0)
  refine lv_iconst (v := 1) hx hb dX7_run_16 (by decide) ?_
  refine s_cVi (ws' := [(o, moE (f_X7_refused_o g 1) hs a b c_)]) C hK hA X (c_X7_refused l D ty o a b c_ g hs 1) [0] (pk_c rfl pk_n) rfl (pk_c rfl pk_n) (em_t em_n) rfl ml_X7_refused wm_X7_29 (q0 := 0) rfl rfl rfl ⟨Nat.le_of_ble_eq_true rfl, Nat.le_of_ble_eq_true rfl⟩ ⟨Nat.zero_le _, Nat.zero_le _⟩ hl.1 rfl (Nat.le_of_ble_eq_true rfl) dX7_run_17 (fun H locs X => ?_)
  refine s_eqi (y := 1) (by decide) ?_
  refine lv_if_eq (tgt := 25) hx hb dX7_run_20 (by decide) (fun c0 => absurd c0 (by decide)) (fun _ => ?_)
  refine lv_iconst (v := 0) hx hb dX7_run_23 (by decide) ?_
  have e_0_0 : (f_X7_run_no_o g) = (f_X7_refused_o g 1) := by first | (rw [f_X7_run_no_o]; done) | (rw [f_X7_run_no_o]; rfl) | (simp only [f_X7_run_no_o]; done)
  exact hret _ _ _ _ _ _ dX7_run_24 X (by rw [e_0_0]) rfl
def f_X7_stops_a (n : F1) : F1 := (mtN n (mtK n))
theorem ok_X7_stops_a (n : F1) (hM : MOK n) : MOK (f_X7_stops_a n) := mtN_ok hM _
set_option maxHeartbeats 4000000 in
set_option maxRecDepth 100000 in
theorem c_X7_stops (l : Launch) (D : va_G) (ty : Nat → ClassId) (o : Nat) (a : Nat) (b : Nat) (c_ : Nat) (g : F1) (hs : Int64) (n : F1) (hM : MOK n) : MC l D ty yX7_stops cX7_stops 2 (some .int) 9 [.ref o] [(o, moE g hs a b c_), (a, arE ty 253 n)] (some (.int (nI (mtK n)))) [(o, moE g hs a b c_), (a, arE ty 253 (f_X7_stops_a n))] := by
  refine mc_i (by decide +kernel) (Nat.le_of_ble_eq_true rfl) ?_
  intro p e s m args below meth c A Q ls C hK hA X hret hl
  have hx := C.1
  have hb := C.2.1
  have hl : lv_has ls 2 [(0, .ref o)] := hl
  have X : Wd D A s.heap [(o, moE g hs a b c_), (a, arE ty 253 n)] s.heap [] := X
  refine lv_iconst (v := 0) hx hb dX7_stops_0 (by decide) ?_
  refine lv_istore_n (lv' := [(1, .int 0), (0, .ref o)]) hx hb dX7_stops_1 rfl hl (by decide) rfl (fun ls hl => ?_)
  have K1 : ∀ (y1_0 : Int32) (y1_1 : F1) (ls : Array Slot) (H : Heap) (locs : List Loc), y1_0 = (nI (mtK n)) → y1_1 = (mtN n (mtK n)) → lv_has ls 2 [(1, .int y1_0), (0, .ref o)] → Wd D A s.heap [(o, moE g hs a b c_), (a, arE ty 253 y1_1)] H locs → W p l e (rmD 9) s m args below meth c H locs 0 0 Q (F0 m 28 ls []) := by
    intro y1_0 y1_1 ls H locs ey1_0 ey1_1 hl X
    replace ey1_0 := ey1_0.symm; subst ey1_0; replace ey1_1 := ey1_1.symm; subst ey1_1
    refine lv_iload_n hx hb dX7_stops_28 rfl (lv_at hl 0 rfl) ?_
    have e_1_0 : (f_X7_stops_a n) = (mtN n (mtK n)) := by first | (rw [f_X7_stops_a]; done) | (rw [f_X7_stops_a]; rfl) | (simp only [f_X7_stops_a]; done)
    exact hret _ _ _ _ _ _ dX7_stops_29 X (by rw [e_1_0]) rfl
  have L1 : ∀ (kf i : Nat) (y1_0 : Int32) (y1_1 : F1) (ls : Array Slot) (H : Heap) (locs : List Loc), 5000 - i < kf → (i ≤ 5000 ∧ scanB (mtP n) (5000 - i) i = mtK n) → y1_0 = (nI i) → y1_1 = (mtN n i) → lv_has ls 2 [(1, .int y1_0), (0, .ref o)] → Wd D A s.heap [(o, moE g hs a b c_), (a, arE ty 253 y1_1)] H locs → W p l e (rmD 9) s m args below meth c H locs 0 0 Q (F0 m 2 ls []) := by
    intro kf
    induction kf with
    | zero => intro i y1_0 y1_1 ls H locs hk; exact absurd hk (Nat.not_lt_zero _)
    | succ kf ih1 =>
      intro i y1_0 y1_1 ls H locs hk hI ey1_0 ey1_1 hl X
      replace ey1_0 := ey1_0.symm; subst ey1_0; replace ey1_1 := ey1_1.symm; subst ey1_1
      obtain ⟨hI1, hI2⟩ := hI
      have hT : MOK (mtN n i) := mtN_ok hM i
      refine lv_iload_n hx hb dX7_stops_2 rfl (lv_at hl 0 rfl) ?_
      refine lv_sipush (v := 5000) hx hb dX7_stops_3 (by decide) ?_
      refine lv_icmp_ge (tgt := 28) hx hb dX7_stops_6 (by decide) (fun c0_0 => ?_) (fun c0_0 => ?_)
      · have hE : mtK n = i := by rw [← hI2]; exact (by rw [show i = 5000 from eq_of_nIle (a := 5000) (by decide) (by omega) hI1 c0_0]; rfl)
        exact K1 (nI i) (mtN n i) _ _ _ (by rw [hE]) (by rw [hE]) (lv_sub hl [0, 1] rfl) X
      · refine lv_aload_n hx hb dX7_stops_9 rfl (lv_at hl 1 rfl) ?_
        refine get_mo_0 C hK X 0 rfl fl_X7_7 dX7_stops_10 ?_
        refine lv_iconst (v := 0) hx hb dX7_stops_13 (by decide) ?_
        refine s_ialN C hK X 1 0 rfl rfl (by decide) (by decide) dX7_stops_14 ?_
        refine lv_if_le (tgt := 28) hx hb dX7_stops_15 (by decide) (fun c1_1 => ?_) (fun c1_1 => ?_)
        · have hE : mtK n = i := by rw [← hI2]; exact scan_stop (by simp [mtP, c1_1])
          exact K1 (nI i) (mtN n i) _ _ _ (by rw [hE]) (by rw [hE]) (lv_sub hl [0, 1] rfl) X
        · refine lv_aload_n hx hb dX7_stops_18 rfl (lv_at hl 1 rfl) ?_
          refine s_cVv (ws' := [(o, moE g hs a b c_), (a, arE ty 253 (v_X7_tickOn_31 (mtN n i)))]) C hK hA X (c_X7_tickOn l D ty o a b c_ g hs (mtN n i) hT) [0, 1] (pk_c rfl (pk_c rfl pk_n)) rfl (pk_c rfl (pk_c rfl pk_n)) (em_t (em_t em_n)) rfl ml_X7_tickOn wm_X7_156 (q0 := 0) rfl rfl rfl ⟨Nat.le_of_ble_eq_true rfl, Nat.le_of_ble_eq_true rfl⟩ ⟨Nat.zero_le _, Nat.zero_le _⟩ hl.1 rfl (Nat.le_of_ble_eq_true rfl) dX7_stops_19 (fun H locs X => ?_)
          refine lv_iinc (v := ((nI i) + 1)) (lv' := [(1, .int ((nI i) + 1)), (0, .ref o)]) hx hb dX7_stops_22 hl (k := 0) rfl rfl (by decide) rfl (fun ls hl => ?_)
          refine lv_goto (tgt := 2) hx hb dX7_stops_25 (by decide) ?_
          have h1 : i < 5000 := lt_of_nnIle (a := 5000) (b := i) (by decide) (by omega) c0_0
          have hP : mtP n i = true := by simp [mtP, Int32.not_le.mp c1_1]
          exact ih1 (i + 1) ((nI i) + 1) (v_X7_tickOn_31 (mtN n i)) _ _ _ (by omega) ⟨by have := lt_of_nnIle (a := 5000) (b := i) (by decide) (by omega) c0_0; omega, by have := lt_of_nnIle (a := 5000) (b := i) (by decide) (by omega) c0_0; rw [← hI2, ← scan_go (k := 5000 - i) (by omega) hP, show 5000 - (i + 1) = 5000 - i - 1 by omega]⟩ (nI_1 i) rfl (lv_sub hl [0, 1] rfl) X
  exact L1 (5000 + 1) 0 0 n _ _ _ (by omega) ⟨by omega, rfl⟩ rfl rfl (lv_sub hl [0, 1] rfl) X
def f_X7_stop_o (g : F1) (sv : Nat) : F1 := (f_X7_saves_o (upd g 1 0) sv)
def f_X7_stop_b (n : F1) (pa : F1) (sv : Nat) : F1 := (f_X7_saves_b n pa sv)
theorem ok_X7_stop_a (n : F1) (hM : MOK n) : MOK (f_X7_stops_a n) := by
  (try simp only []); exact (ok_X7_stops_a n hM)
set_option maxHeartbeats 4000000 in
set_option maxRecDepth 100000 in
theorem c_X7_stop (l : Launch) (D : va_G) (ty : Nat → ClassId) (o : Nat) (a : Nat) (b : Nat) (c_ : Nat) (g : F1) (hs : Int64) (n : F1) (pa : F1) (sv : Nat) (hs9 : g 0 = nI sv) (hsv : sv ≤ 3) (hM : MOK n) : MC l D ty yX7_stop cX7_stop 1 (some .int) 10 [.ref o] [(o, moE g hs a b c_), (a, arE ty 253 n), (b, arE ty 759 pa)] (some (.int (nI (mtK n)))) [(o, moE (f_X7_stop_o g sv) hs a b c_), (a, arE ty 253 (f_X7_stops_a n)), (b, arE ty 759 (f_X7_stop_b n pa sv))] := by
  refine mc_i (by decide +kernel) (Nat.le_of_ble_eq_true rfl) ?_
  intro p e s m args below meth c A Q ls C hK hA X hret hl
  have hx := C.1
  have hb := C.2.1
  have hl : lv_has ls 1 [(0, .ref o)] := hl
  have X : Wd D A s.heap [(o, moE g hs a b c_), (a, arE ty 253 n), (b, arE ty 759 pa)] s.heap [] := X
  refine lv_aload_n hx hb dX7_stop_0 rfl (lv_at hl 0 rfl) ?_
  refine lv_iconst (v := 0) hx hb dX7_stop_1 (by decide) ?_
  refine put_mo_4 C hK X 0 rfl pl_X7_22 dX7_stop_2 (fun H locs X => ?_)
  have X : Wd D A s.heap [(o, moE (upd g 1 0) hs a b c_), (a, arE ty 253 n), (b, arE ty 759 pa)] H locs := X
  refine lv_aload_n hx hb dX7_stop_5 rfl (lv_at hl 0 rfl) ?_
  refine s_cVv (ws' := [(o, moE (f_X7_saves_o (upd g 1 0) sv) hs a b c_), (a, arE ty 253 n), (b, arE ty 759 (f_X7_saves_b n pa sv))]) C hK hA X (c_X7_saves l D ty o a b c_ (upd g 1 0) hs n pa sv ((pk_un (by decide)).trans hs9) hsv) [0, 1, 2] (pk_c rfl (pk_c rfl (pk_c rfl pk_n))) rfl (pk_c rfl (pk_c rfl (pk_c rfl pk_n))) (em_t (em_t (em_t em_n))) rfl ml_X7_saves wm_X7_143 (q0 := 0) rfl rfl rfl ⟨Nat.le_of_ble_eq_true rfl, Nat.le_of_ble_eq_true rfl⟩ ⟨Nat.zero_le _, Nat.zero_le _⟩ hl.1 rfl (Nat.le_of_ble_eq_true rfl) dX7_stop_6 (fun H locs X => ?_)
  refine lv_aload_n hx hb dX7_stop_9 rfl (lv_at hl 0 rfl) ?_
  refine s_cVi (ws' := [(o, moE (f_X7_saves_o (upd g 1 0) sv) hs a b c_), (a, arE ty 253 (f_X7_stops_a n)), (b, arE ty 759 (f_X7_saves_b n pa sv))]) C hK hA X (c_X7_stops l D ty o a b c_ (f_X7_saves_o (upd g 1 0) sv) hs n hM) [0, 1] (pk_c rfl (pk_c rfl pk_n)) rfl (pk_c rfl (pk_c rfl pk_n)) (em_t (em_t (em_f em_n))) rfl ml_X7_stops wm_X7_159 (q0 := 0) rfl rfl rfl ⟨Nat.le_of_ble_eq_true rfl, Nat.le_of_ble_eq_true rfl⟩ ⟨Nat.zero_le _, Nat.zero_le _⟩ hl.1 rfl (Nat.le_of_ble_eq_true rfl) dX7_stop_10 (fun H locs X => ?_)
  have e_0_0 : (f_X7_stop_o g sv) = (f_X7_saves_o (upd g 1 0) sv) := by first | (rw [f_X7_stop_o]; done) | (rw [f_X7_stop_o]; rfl) | (simp only [f_X7_stop_o]; done)
  have e_2_1 : (f_X7_stop_b n pa sv) = (f_X7_saves_b n pa sv) := by first | (rw [f_X7_stop_b]; done) | (rw [f_X7_stop_b]; rfl) | (simp only [f_X7_stop_b]; done)
  exact hret _ _ _ _ _ _ dX7_stop_13 X (by rw [e_0_0, e_2_1]) rfl
def f_X7_car_ok (n : F1) (k : Nat) : Int32 := (f_X7_tellCar n k)
def f_X7_car_ok_o (g : F1) : F1 := (f_X7_refused_o g 0)
set_option maxHeartbeats 4000000 in
set_option maxRecDepth 100000 in
theorem c_X7_car_ok (l : Launch) (D : va_G) (ty : Nat → ClassId) (o : Nat) (a : Nat) (b : Nat) (c_ : Nat) (g : F1) (hs : Int64) (n : F1) (k : Nat) (hk9 : k ≤ 9) (hv : f_X7_within (nI k) 0 9 = 1) : MC l D ty yX7_car cX7_car 2 (some .int) 5 [.ref o, .int (nI k)] [(o, moE g hs a b c_), (a, arE ty 253 n)] (some (.int (f_X7_car_ok n k))) [(o, moE (f_X7_car_ok_o g) hs a b c_), (a, arE ty 253 n)] := by
  refine mc_i (by decide +kernel) (Nat.le_of_ble_eq_true rfl) ?_
  intro p e s m args below meth c A Q ls C hK hA X hret hl
  have hx := C.1
  have hb := C.2.1
  have hl : lv_has ls 2 [(0, .ref o), (1, .int (nI k))] := hl
  have X : Wd D A s.heap [(o, moE g hs a b c_), (a, arE ty 253 n)] s.heap [] := X
  refine lv_aload_n hx hb dX7_car_0 rfl (lv_at hl 0 rfl) ?_
  refine lv_iload_n hx hb dX7_car_1 rfl (lv_at hl 1 rfl) ?_
  refine lv_iconst (v := 0) hx hb dX7_car_2 (by decide) ?_
  refine lv_bipush (v := 9) hx hb dX7_car_3 (by decide) ?_
  refine s_cS0i C hK hA X (c_X7_within l D ty (nI k) 0 9) [] pk_n rfl sl_X7_within wm_X7_37 ⟨Nat.le_of_ble_eq_true rfl, Nat.le_of_ble_eq_true rfl⟩ ⟨Nat.zero_le _, Nat.zero_le _⟩ hl.1 rfl (Nat.le_of_ble_eq_true rfl) dX7_car_5 (fun H locs X => ?_)
  refine s_eqi (y := 1) (hv) ?_
  refine lv_if_eq (tgt := 15) hx hb dX7_car_8 (by decide) (fun c0 => absurd c0 (by decide)) (fun _ => ?_)
  refine lv_iconst (v := 0) hx hb dX7_car_11 (by decide) ?_
  refine lv_goto (tgt := 16) hx hb dX7_car_12 (by decide) ?_
  refine s_cVi (ws' := [(o, moE (f_X7_refused_o g 0) hs a b c_), (a, arE ty 253 n)]) C hK hA X (c_X7_refused l D ty o a b c_ g hs 0) [0] (pk_c rfl pk_n) rfl (pk_c rfl pk_n) (em_t (em_f em_n)) rfl ml_X7_refused wm_X7_29 (q0 := 0) rfl rfl rfl ⟨Nat.le_of_ble_eq_true rfl, Nat.le_of_ble_eq_true rfl⟩ ⟨Nat.zero_le _, Nat.zero_le _⟩ hl.1 rfl (Nat.le_of_ble_eq_true rfl) dX7_car_16 (fun H locs X => ?_)
  refine s_eqi (y := 0) (by decide) ?_
  refine lv_if_eq (tgt := 26) hx hb dX7_car_19 (by decide) (fun _ => ?_) (fun c0 => absurd (by decide) c0)
  refine lv_aload_n hx hb dX7_car_26 rfl (lv_at hl 0 rfl) ?_
  refine lv_iload_n hx hb dX7_car_27 rfl (lv_at hl 1 rfl) ?_
  refine s_cV0i C hK hA X (c_X7_tellCar l D ty o a b c_ (f_X7_refused_o g 0) hs n k (by assumption)) [0, 1] (pk_c rfl (pk_c rfl pk_n)) rfl ml_X7_tellCar wm_X7_162 (q0 := 0) rfl rfl rfl ⟨Nat.le_of_ble_eq_true rfl, Nat.le_of_ble_eq_true rfl⟩ ⟨Nat.zero_le _, Nat.zero_le _⟩ hl.1 rfl (Nat.le_of_ble_eq_true rfl) dX7_car_28 (fun H locs X => ?_)
  have e_0_0 : (f_X7_car_ok_o g) = (f_X7_refused_o g 0) := by first | (rw [f_X7_car_ok_o]; done) | (rw [f_X7_car_ok_o]; rfl) | (simp only [f_X7_car_ok_o]; done)
  exact hret _ _ _ _ _ _ dX7_car_31 X (by rw [e_0_0]) (by first | (rw [f_X7_car_ok]; done) | (rw [f_X7_car_ok]; rfl) | (simp only [f_X7_car_ok]; done))
def f_X7_car_no_o (g : F1) : F1 := (f_X7_refused_o g 1)
set_option maxHeartbeats 4000000 in
set_option maxRecDepth 100000 in
theorem c_X7_car_no (l : Launch) (D : va_G) (ty : Nat → ClassId) (o : Nat) (a : Nat) (b : Nat) (c_ : Nat) (g : F1) (hs : Int64) (V : Int32) (hv : f_X7_within V 0 9 = 0) : MC l D ty yX7_car cX7_car 2 (some .int) 1 [.ref o, .int V] [(o, moE g hs a b c_)] (some (.int 0)) [(o, moE (f_X7_car_no_o g) hs a b c_)] := by
  refine mc_i (by decide +kernel) (Nat.le_of_ble_eq_true rfl) ?_
  intro p e s m args below meth c A Q ls C hK hA X hret hl
  have hx := C.1
  have hb := C.2.1
  have hl : lv_has ls 2 [(0, .ref o), (1, .int V)] := hl
  have X : Wd D A s.heap [(o, moE g hs a b c_)] s.heap [] := X
  refine lv_aload_n hx hb dX7_car_0 rfl (lv_at hl 0 rfl) ?_
  refine lv_iload_n hx hb dX7_car_1 rfl (lv_at hl 1 rfl) ?_
  refine lv_iconst (v := 0) hx hb dX7_car_2 (by decide) ?_
  refine lv_bipush (v := 9) hx hb dX7_car_3 (by decide) ?_
  refine s_cS0i C hK hA X (c_X7_within l D ty V 0 9) [] pk_n rfl sl_X7_within wm_X7_37 ⟨Nat.le_of_ble_eq_true rfl, Nat.le_of_ble_eq_true rfl⟩ ⟨Nat.zero_le _, Nat.zero_le _⟩ hl.1 rfl (Nat.le_of_ble_eq_true rfl) dX7_car_5 (fun H locs X => ?_)
  refine s_eqi (y := 0) (hv) ?_
  refine lv_if_eq (tgt := 15) hx hb dX7_car_8 (by decide) (fun _ => ?_) (fun c0 => absurd (by decide) c0)
  refine lv_iconst (v := 1) hx hb dX7_car_15 (by decide) ?_
  refine s_cVi (ws' := [(o, moE (f_X7_refused_o g 1) hs a b c_)]) C hK hA X (c_X7_refused l D ty o a b c_ g hs 1) [0] (pk_c rfl pk_n) rfl (pk_c rfl pk_n) (em_t em_n) rfl ml_X7_refused wm_X7_29 (q0 := 0) rfl rfl rfl ⟨Nat.le_of_ble_eq_true rfl, Nat.le_of_ble_eq_true rfl⟩ ⟨Nat.zero_le _, Nat.zero_le _⟩ hl.1 rfl (Nat.le_of_ble_eq_true rfl) dX7_car_16 (fun H locs X => ?_)
  refine s_eqi (y := 1) (by decide) ?_
  refine lv_if_eq (tgt := 26) hx hb dX7_car_19 (by decide) (fun c0 => absurd c0 (by decide)) (fun _ => ?_)
  refine lv_iconst (v := 0) hx hb dX7_car_22 (by decide) ?_
  refine lv_goto (tgt := 31) hx hb dX7_car_23 (by decide) ?_
  have e_0_0 : (f_X7_car_no_o g) = (f_X7_refused_o g 1) := by first | (rw [f_X7_car_no_o]; done) | (rw [f_X7_car_no_o]; rfl) | (simp only [f_X7_car_no_o]; done)
  exact hret _ _ _ _ _ _ dX7_car_31 X (by rw [e_0_0]) rfl
def f_X7_wheel_ok (n : F1) (j : Nat) (k : Nat) : Int32 := (f_X7_tellWheel n j k)
def f_X7_wheel_ok_o (g : F1) : F1 := (f_X7_refused_o g 0)
set_option maxHeartbeats 4000000 in
set_option maxRecDepth 100000 in
theorem c_X7_wheel_ok (l : Launch) (D : va_G) (ty : Nat → ClassId) (o : Nat) (a : Nat) (b : Nat) (c_ : Nat) (g : F1) (hs : Int64) (n : F1) (j : Nat) (k : Nat) (hM : MOK n) (hj : j < 4) (hk9 : k ≤ 11) (hv : f_X7_isWheel (nI j) = 1) (hw : f_X7_within (nI k) 0 11 = 1) : MC l D ty yX7_wheel cX7_wheel 3 (some .int) 5 [.ref o, .int (nI j), .int (nI k)] [(o, moE g hs a b c_), (a, arE ty 253 n)] (some (.int (f_X7_wheel_ok n j k))) [(o, moE (f_X7_wheel_ok_o g) hs a b c_), (a, arE ty 253 n)] := by
  refine mc_i (by decide +kernel) (Nat.le_of_ble_eq_true rfl) ?_
  intro p e s m args below meth c A Q ls C hK hA X hret hl
  have hx := C.1
  have hb := C.2.1
  have hl : lv_has ls 3 [(0, .ref o), (1, .int (nI j)), (2, .int (nI k))] := hl
  have X : Wd D A s.heap [(o, moE g hs a b c_), (a, arE ty 253 n)] s.heap [] := X
  refine lv_aload_n hx hb dX7_wheel_0 rfl (lv_at hl 0 rfl) ?_
  refine lv_iload_n hx hb dX7_wheel_1 rfl (lv_at hl 1 rfl) ?_
  refine s_cS0i C hK hA X (c_X7_isWheel l D ty (nI j)) [] pk_n rfl sl_X7_isWheel wm_X7_153 ⟨Nat.le_of_ble_eq_true rfl, Nat.le_of_ble_eq_true rfl⟩ ⟨Nat.zero_le _, Nat.zero_le _⟩ hl.1 rfl (Nat.le_of_ble_eq_true rfl) dX7_wheel_2 (fun H locs X => ?_)
  refine s_eqi (y := 1) (hv) ?_
  refine lv_if_ne (tgt := 12) hx hb dX7_wheel_5 (by decide) (fun _ => ?_) (fun c0 => absurd c0 (by decide))
  refine lv_iload_n hx hb dX7_wheel_12 rfl (lv_at hl 2 rfl) ?_
  refine lv_iconst (v := 0) hx hb dX7_wheel_13 (by decide) ?_
  refine lv_bipush (v := 11) hx hb dX7_wheel_14 (by decide) ?_
  refine s_cS0i C hK hA X (c_X7_within l D ty (nI k) 0 11) [] pk_n rfl sl_X7_within wm_X7_37 ⟨Nat.le_of_ble_eq_true rfl, Nat.le_of_ble_eq_true rfl⟩ ⟨Nat.zero_le _, Nat.zero_le _⟩ hl.1 rfl (Nat.le_of_ble_eq_true rfl) dX7_wheel_16 (fun H locs X => ?_)
  refine s_eqi (y := 1) (hw) ?_
  refine lv_if_eq (tgt := 26) hx hb dX7_wheel_19 (by decide) (fun c0 => absurd c0 (by decide)) (fun _ => ?_)
  refine lv_iconst (v := 0) hx hb dX7_wheel_22 (by decide) ?_
  refine lv_goto (tgt := 27) hx hb dX7_wheel_23 (by decide) ?_
  refine s_cVi (ws' := [(o, moE (f_X7_refused_o g 0) hs a b c_), (a, arE ty 253 n)]) C hK hA X (c_X7_refused l D ty o a b c_ g hs 0) [0] (pk_c rfl pk_n) rfl (pk_c rfl pk_n) (em_t (em_f em_n)) rfl ml_X7_refused wm_X7_29 (q0 := 0) rfl rfl rfl ⟨Nat.le_of_ble_eq_true rfl, Nat.le_of_ble_eq_true rfl⟩ ⟨Nat.zero_le _, Nat.zero_le _⟩ hl.1 rfl (Nat.le_of_ble_eq_true rfl) dX7_wheel_27 (fun H locs X => ?_)
  refine s_eqi (y := 0) (by decide) ?_
  refine lv_if_eq (tgt := 37) hx hb dX7_wheel_30 (by decide) (fun _ => ?_) (fun c0 => absurd (by decide) c0)
  refine lv_aload_n hx hb dX7_wheel_37 rfl (lv_at hl 0 rfl) ?_
  refine lv_iload_n hx hb dX7_wheel_38 rfl (lv_at hl 1 rfl) ?_
  refine lv_iload_n hx hb dX7_wheel_39 rfl (lv_at hl 2 rfl) ?_
  refine s_cV0i C hK hA X (c_X7_tellWheel l D ty o a b c_ (f_X7_refused_o g 0) hs n j k hM (by assumption) (by assumption)) [0, 1] (pk_c rfl (pk_c rfl pk_n)) rfl ml_X7_tellWheel wm_X7_165 (q0 := 0) rfl rfl rfl ⟨Nat.le_of_ble_eq_true rfl, Nat.le_of_ble_eq_true rfl⟩ ⟨Nat.zero_le _, Nat.zero_le _⟩ hl.1 rfl (Nat.le_of_ble_eq_true rfl) dX7_wheel_40 (fun H locs X => ?_)
  have e_0_0 : (f_X7_wheel_ok_o g) = (f_X7_refused_o g 0) := by first | (rw [f_X7_wheel_ok_o]; done) | (rw [f_X7_wheel_ok_o]; rfl) | (simp only [f_X7_wheel_ok_o]; done)
  exact hret _ _ _ _ _ _ dX7_wheel_43 X (by rw [e_0_0]) (by first | (rw [f_X7_wheel_ok]; done) | (rw [f_X7_wheel_ok]; rfl) | (simp only [f_X7_wheel_ok]; done))
def f_X7_wheel_no1_o (g : F1) : F1 := (f_X7_refused_o g 1)
set_option maxHeartbeats 4000000 in
set_option maxRecDepth 100000 in
theorem c_X7_wheel_no1 (l : Launch) (D : va_G) (ty : Nat → ClassId) (o : Nat) (a : Nat) (b : Nat) (c_ : Nat) (g : F1) (hs : Int64) (V : Int32) (U : Int32) (hv : f_X7_isWheel V = 0) : MC l D ty yX7_wheel cX7_wheel 3 (some .int) 2 [.ref o, .int V, .int U] [(o, moE g hs a b c_)] (some (.int 0)) [(o, moE (f_X7_wheel_no1_o g) hs a b c_)] := by
  refine mc_i (by decide +kernel) (Nat.le_of_ble_eq_true rfl) ?_
  intro p e s m args below meth c A Q ls C hK hA X hret hl
  have hx := C.1
  have hb := C.2.1
  have hl : lv_has ls 3 [(0, .ref o), (1, .int V), (2, .int U)] := hl
  have X : Wd D A s.heap [(o, moE g hs a b c_)] s.heap [] := X
  refine lv_aload_n hx hb dX7_wheel_0 rfl (lv_at hl 0 rfl) ?_
  refine lv_iload_n hx hb dX7_wheel_1 rfl (lv_at hl 1 rfl) ?_
  refine s_cS0i C hK hA X (c_X7_isWheel l D ty V) [] pk_n rfl sl_X7_isWheel wm_X7_153 ⟨Nat.le_of_ble_eq_true rfl, Nat.le_of_ble_eq_true rfl⟩ ⟨Nat.zero_le _, Nat.zero_le _⟩ hl.1 rfl (Nat.le_of_ble_eq_true rfl) dX7_wheel_2 (fun H locs X => ?_)
  refine s_eqi (y := 0) (hv) ?_
  refine lv_if_ne (tgt := 12) hx hb dX7_wheel_5 (by decide) (fun c0 => absurd (by decide) c0) (fun _ => ?_)
  refine lv_iconst (v := 1) hx hb dX7_wheel_8 (by decide) ?_
  refine lv_goto (tgt := 27) hx hb dX7_wheel_9 (by decide) ?_
  refine s_cVi (ws' := [(o, moE (f_X7_refused_o g 1) hs a b c_)]) C hK hA X (c_X7_refused l D ty o a b c_ g hs 1) [0] (pk_c rfl pk_n) rfl (pk_c rfl pk_n) (em_t em_n) rfl ml_X7_refused wm_X7_29 (q0 := 0) rfl rfl rfl ⟨Nat.le_of_ble_eq_true rfl, Nat.le_of_ble_eq_true rfl⟩ ⟨Nat.zero_le _, Nat.zero_le _⟩ hl.1 rfl (Nat.le_of_ble_eq_true rfl) dX7_wheel_27 (fun H locs X => ?_)
  refine s_eqi (y := 1) (by decide) ?_
  refine lv_if_eq (tgt := 37) hx hb dX7_wheel_30 (by decide) (fun c0 => absurd c0 (by decide)) (fun _ => ?_)
  refine lv_iconst (v := 0) hx hb dX7_wheel_33 (by decide) ?_
  refine lv_goto (tgt := 43) hx hb dX7_wheel_34 (by decide) ?_
  have e_0_0 : (f_X7_wheel_no1_o g) = (f_X7_refused_o g 1) := by first | (rw [f_X7_wheel_no1_o]; done) | (rw [f_X7_wheel_no1_o]; rfl) | (simp only [f_X7_wheel_no1_o]; done)
  exact hret _ _ _ _ _ _ dX7_wheel_43 X (by rw [e_0_0]) rfl
def f_X7_wheel_no2_o (g : F1) : F1 := (f_X7_refused_o g 2)
set_option maxHeartbeats 4000000 in
set_option maxRecDepth 100000 in
theorem c_X7_wheel_no2 (l : Launch) (D : va_G) (ty : Nat → ClassId) (o : Nat) (a : Nat) (b : Nat) (c_ : Nat) (g : F1) (hs : Int64) (V : Int32) (U : Int32) (hv : f_X7_isWheel V = 1) (hw : f_X7_within U 0 11 = 0) : MC l D ty yX7_wheel cX7_wheel 3 (some .int) 2 [.ref o, .int V, .int U] [(o, moE g hs a b c_)] (some (.int 0)) [(o, moE (f_X7_wheel_no2_o g) hs a b c_)] := by
  refine mc_i (by decide +kernel) (Nat.le_of_ble_eq_true rfl) ?_
  intro p e s m args below meth c A Q ls C hK hA X hret hl
  have hx := C.1
  have hb := C.2.1
  have hl : lv_has ls 3 [(0, .ref o), (1, .int V), (2, .int U)] := hl
  have X : Wd D A s.heap [(o, moE g hs a b c_)] s.heap [] := X
  refine lv_aload_n hx hb dX7_wheel_0 rfl (lv_at hl 0 rfl) ?_
  refine lv_iload_n hx hb dX7_wheel_1 rfl (lv_at hl 1 rfl) ?_
  refine s_cS0i C hK hA X (c_X7_isWheel l D ty V) [] pk_n rfl sl_X7_isWheel wm_X7_153 ⟨Nat.le_of_ble_eq_true rfl, Nat.le_of_ble_eq_true rfl⟩ ⟨Nat.zero_le _, Nat.zero_le _⟩ hl.1 rfl (Nat.le_of_ble_eq_true rfl) dX7_wheel_2 (fun H locs X => ?_)
  refine s_eqi (y := 1) (hv) ?_
  refine lv_if_ne (tgt := 12) hx hb dX7_wheel_5 (by decide) (fun _ => ?_) (fun c0 => absurd c0 (by decide))
  refine lv_iload_n hx hb dX7_wheel_12 rfl (lv_at hl 2 rfl) ?_
  refine lv_iconst (v := 0) hx hb dX7_wheel_13 (by decide) ?_
  refine lv_bipush (v := 11) hx hb dX7_wheel_14 (by decide) ?_
  refine s_cS0i C hK hA X (c_X7_within l D ty U 0 11) [] pk_n rfl sl_X7_within wm_X7_37 ⟨Nat.le_of_ble_eq_true rfl, Nat.le_of_ble_eq_true rfl⟩ ⟨Nat.zero_le _, Nat.zero_le _⟩ hl.1 rfl (Nat.le_of_ble_eq_true rfl) dX7_wheel_16 (fun H locs X => ?_)
  refine s_eqi (y := 0) (hw) ?_
  refine lv_if_eq (tgt := 26) hx hb dX7_wheel_19 (by decide) (fun _ => ?_) (fun c0 => absurd (by decide) c0)
  refine lv_iconst (v := 2) hx hb dX7_wheel_26 (by decide) ?_
  refine s_cVi (ws' := [(o, moE (f_X7_refused_o g 2) hs a b c_)]) C hK hA X (c_X7_refused l D ty o a b c_ g hs 2) [0] (pk_c rfl pk_n) rfl (pk_c rfl pk_n) (em_t em_n) rfl ml_X7_refused wm_X7_29 (q0 := 0) rfl rfl rfl ⟨Nat.le_of_ble_eq_true rfl, Nat.le_of_ble_eq_true rfl⟩ ⟨Nat.zero_le _, Nat.zero_le _⟩ hl.1 rfl (Nat.le_of_ble_eq_true rfl) dX7_wheel_27 (fun H locs X => ?_)
  refine s_eqi (y := 1) (by decide) ?_
  refine lv_if_eq (tgt := 37) hx hb dX7_wheel_30 (by decide) (fun c0 => absurd c0 (by decide)) (fun _ => ?_)
  refine lv_iconst (v := 0) hx hb dX7_wheel_33 (by decide) ?_
  refine lv_goto (tgt := 43) hx hb dX7_wheel_34 (by decide) ?_
  have e_0_0 : (f_X7_wheel_no2_o g) = (f_X7_refused_o g 2) := by first | (rw [f_X7_wheel_no2_o]; done) | (rw [f_X7_wheel_no2_o]; rfl) | (simp only [f_X7_wheel_no2_o]; done)
  exact hret _ _ _ _ _ _ dX7_wheel_43 X (by rw [e_0_0]) rfl
def f_X7_friction_ok (n : F1) (j : Nat) : Int32 := (f_X7_frictionAt n j)
def f_X7_friction_ok_o (g : F1) : F1 := (f_X7_refused_o g 0)
set_option maxHeartbeats 4000000 in
set_option maxRecDepth 100000 in
theorem c_X7_friction_ok (l : Launch) (D : va_G) (ty : Nat → ClassId) (o : Nat) (a : Nat) (b : Nat) (c_ : Nat) (g : F1) (hs : Int64) (n : F1) (j : Nat) (hM : MOK n) (hj : j < 4) (hv : f_X7_isWheel (nI j) = 1) : MC l D ty yX7_friction cX7_friction 2 (some .int) 4 [.ref o, .int (nI j)] [(o, moE g hs a b c_), (a, arE ty 253 n)] (some (.int (f_X7_friction_ok n j))) [(o, moE (f_X7_friction_ok_o g) hs a b c_), (a, arE ty 253 n)] := by
  refine mc_i (by decide +kernel) (Nat.le_of_ble_eq_true rfl) ?_
  intro p e s m args below meth c A Q ls C hK hA X hret hl
  have hx := C.1
  have hb := C.2.1
  have hl : lv_has ls 2 [(0, .ref o), (1, .int (nI j))] := hl
  have X : Wd D A s.heap [(o, moE g hs a b c_), (a, arE ty 253 n)] s.heap [] := X
  refine lv_aload_n hx hb dX7_friction_0 rfl (lv_at hl 0 rfl) ?_
  refine lv_iload_n hx hb dX7_friction_1 rfl (lv_at hl 1 rfl) ?_
  refine s_cS0i C hK hA X (c_X7_isWheel l D ty (nI j)) [] pk_n rfl sl_X7_isWheel wm_X7_153 ⟨Nat.le_of_ble_eq_true rfl, Nat.le_of_ble_eq_true rfl⟩ ⟨Nat.zero_le _, Nat.zero_le _⟩ hl.1 rfl (Nat.le_of_ble_eq_true rfl) dX7_friction_2 (fun H locs X => ?_)
  refine s_eqi (y := 1) (hv) ?_
  refine lv_if_eq (tgt := 12) hx hb dX7_friction_5 (by decide) (fun c0 => absurd c0 (by decide)) (fun _ => ?_)
  refine lv_iconst (v := 0) hx hb dX7_friction_8 (by decide) ?_
  refine lv_goto (tgt := 13) hx hb dX7_friction_9 (by decide) ?_
  refine s_cVi (ws' := [(o, moE (f_X7_refused_o g 0) hs a b c_), (a, arE ty 253 n)]) C hK hA X (c_X7_refused l D ty o a b c_ g hs 0) [0] (pk_c rfl pk_n) rfl (pk_c rfl pk_n) (em_t (em_f em_n)) rfl ml_X7_refused wm_X7_29 (q0 := 0) rfl rfl rfl ⟨Nat.le_of_ble_eq_true rfl, Nat.le_of_ble_eq_true rfl⟩ ⟨Nat.zero_le _, Nat.zero_le _⟩ hl.1 rfl (Nat.le_of_ble_eq_true rfl) dX7_friction_13 (fun H locs X => ?_)
  refine s_eqi (y := 0) (by decide) ?_
  refine lv_if_eq (tgt := 23) hx hb dX7_friction_16 (by decide) (fun _ => ?_) (fun c0 => absurd (by decide) c0)
  refine lv_aload_n hx hb dX7_friction_23 rfl (lv_at hl 0 rfl) ?_
  refine lv_iload_n hx hb dX7_friction_24 rfl (lv_at hl 1 rfl) ?_
  refine s_cV0i C hK hA X (c_X7_frictionAt l D ty o a b c_ (f_X7_refused_o g 0) hs n j hM (by assumption)) [0, 1] (pk_c rfl (pk_c rfl pk_n)) rfl ml_X7_frictionAt wm_X7_133 (q0 := 0) rfl rfl rfl ⟨Nat.le_of_ble_eq_true rfl, Nat.le_of_ble_eq_true rfl⟩ ⟨Nat.zero_le _, Nat.zero_le _⟩ hl.1 rfl (Nat.le_of_ble_eq_true rfl) dX7_friction_25 (fun H locs X => ?_)
  have e_0_0 : (f_X7_friction_ok_o g) = (f_X7_refused_o g 0) := by first | (rw [f_X7_friction_ok_o]; done) | (rw [f_X7_friction_ok_o]; rfl) | (simp only [f_X7_friction_ok_o]; done)
  exact hret _ _ _ _ _ _ dX7_friction_28 X (by rw [e_0_0]) (by first | (rw [f_X7_friction_ok]; done) | (rw [f_X7_friction_ok]; rfl) | (simp only [f_X7_friction_ok]; done))
def f_X7_friction_no_o (g : F1) : F1 := (f_X7_refused_o g 1)
set_option maxHeartbeats 4000000 in
set_option maxRecDepth 100000 in
theorem c_X7_friction_no (l : Launch) (D : va_G) (ty : Nat → ClassId) (o : Nat) (a : Nat) (b : Nat) (c_ : Nat) (g : F1) (hs : Int64) (V : Int32) (hv : f_X7_isWheel V = 0) : MC l D ty yX7_friction cX7_friction 2 (some .int) 2 [.ref o, .int V] [(o, moE g hs a b c_)] (some (.int 0)) [(o, moE (f_X7_friction_no_o g) hs a b c_)] := by
  refine mc_i (by decide +kernel) (Nat.le_of_ble_eq_true rfl) ?_
  intro p e s m args below meth c A Q ls C hK hA X hret hl
  have hx := C.1
  have hb := C.2.1
  have hl : lv_has ls 2 [(0, .ref o), (1, .int V)] := hl
  have X : Wd D A s.heap [(o, moE g hs a b c_)] s.heap [] := X
  refine lv_aload_n hx hb dX7_friction_0 rfl (lv_at hl 0 rfl) ?_
  refine lv_iload_n hx hb dX7_friction_1 rfl (lv_at hl 1 rfl) ?_
  refine s_cS0i C hK hA X (c_X7_isWheel l D ty V) [] pk_n rfl sl_X7_isWheel wm_X7_153 ⟨Nat.le_of_ble_eq_true rfl, Nat.le_of_ble_eq_true rfl⟩ ⟨Nat.zero_le _, Nat.zero_le _⟩ hl.1 rfl (Nat.le_of_ble_eq_true rfl) dX7_friction_2 (fun H locs X => ?_)
  refine s_eqi (y := 0) (hv) ?_
  refine lv_if_eq (tgt := 12) hx hb dX7_friction_5 (by decide) (fun _ => ?_) (fun c0 => absurd (by decide) c0)
  refine lv_iconst (v := 1) hx hb dX7_friction_12 (by decide) ?_
  refine s_cVi (ws' := [(o, moE (f_X7_refused_o g 1) hs a b c_)]) C hK hA X (c_X7_refused l D ty o a b c_ g hs 1) [0] (pk_c rfl pk_n) rfl (pk_c rfl pk_n) (em_t em_n) rfl ml_X7_refused wm_X7_29 (q0 := 0) rfl rfl rfl ⟨Nat.le_of_ble_eq_true rfl, Nat.le_of_ble_eq_true rfl⟩ ⟨Nat.zero_le _, Nat.zero_le _⟩ hl.1 rfl (Nat.le_of_ble_eq_true rfl) dX7_friction_13 (fun H locs X => ?_)
  refine s_eqi (y := 1) (by decide) ?_
  refine lv_if_eq (tgt := 23) hx hb dX7_friction_16 (by decide) (fun c0 => absurd c0 (by decide)) (fun _ => ?_)
  refine lv_iconst (v := 0) hx hb dX7_friction_19 (by decide) ?_
  refine lv_goto (tgt := 28) hx hb dX7_friction_20 (by decide) ?_
  have e_0_0 : (f_X7_friction_no_o g) = (f_X7_refused_o g 1) := by first | (rw [f_X7_friction_no_o]; done) | (rw [f_X7_friction_no_o]; rfl) | (simp only [f_X7_friction_no_o]; done)
  exact hret _ _ _ _ _ _ dX7_friction_28 X (by rw [e_0_0]) rfl
def f_X7_frictionFor_ok (V : Int32) (U : Int32) : Int32 := (f_X7_frictionOf V U)
def f_X7_frictionFor_ok_o (g : F1) : F1 := (f_X7_refused_o g 0)
set_option maxHeartbeats 4000000 in
set_option maxRecDepth 100000 in
theorem c_X7_frictionFor_ok (l : Launch) (D : va_G) (ty : Nat → ClassId) (o : Nat) (a : Nat) (b : Nat) (c_ : Nat) (g : F1) (hs : Int64) (V : Int32) (U : Int32) (hv : f_X7_isSurface V = 1) (hw : f_X7_within U 0 1000 = 1) : MC l D ty yX7_frictionFor cX7_frictionFor 3 (some .int) 2 [.ref o, .int V, .int U] [(o, moE g hs a b c_)] (some (.int (f_X7_frictionFor_ok V U))) [(o, moE (f_X7_frictionFor_ok_o g) hs a b c_)] := by
  refine mc_i (by decide +kernel) (Nat.le_of_ble_eq_true rfl) ?_
  intro p e s m args below meth c A Q ls C hK hA X hret hl
  have hx := C.1
  have hb := C.2.1
  have hl : lv_has ls 3 [(0, .ref o), (1, .int V), (2, .int U)] := hl
  have X : Wd D A s.heap [(o, moE g hs a b c_)] s.heap [] := X
  refine lv_aload_n hx hb dX7_frictionFor_0 rfl (lv_at hl 0 rfl) ?_
  refine lv_iload_n hx hb dX7_frictionFor_1 rfl (lv_at hl 1 rfl) ?_
  refine s_cS0i C hK hA X (c_X7_isSurface l D ty V) [] pk_n rfl sl_X7_isSurface wm_X7_150 ⟨Nat.le_of_ble_eq_true rfl, Nat.le_of_ble_eq_true rfl⟩ ⟨Nat.zero_le _, Nat.zero_le _⟩ hl.1 rfl (Nat.le_of_ble_eq_true rfl) dX7_frictionFor_2 (fun H locs X => ?_)
  refine s_eqi (y := 1) (hv) ?_
  refine lv_if_eq (tgt := 23) hx hb dX7_frictionFor_5 (by decide) (fun c0 => absurd c0 (by decide)) (fun _ => ?_)
  refine lv_iload_n hx hb dX7_frictionFor_8 rfl (lv_at hl 2 rfl) ?_
  refine lv_iconst (v := 0) hx hb dX7_frictionFor_9 (by decide) ?_
  refine lv_sipush (v := 1000) hx hb dX7_frictionFor_10 (by decide) ?_
  refine s_cS0i C hK hA X (c_X7_within l D ty U 0 1000) [] pk_n rfl sl_X7_within wm_X7_37 ⟨Nat.le_of_ble_eq_true rfl, Nat.le_of_ble_eq_true rfl⟩ ⟨Nat.zero_le _, Nat.zero_le _⟩ hl.1 rfl (Nat.le_of_ble_eq_true rfl) dX7_frictionFor_13 (fun H locs X => ?_)
  refine s_eqi (y := 1) (hw) ?_
  refine lv_if_eq (tgt := 23) hx hb dX7_frictionFor_16 (by decide) (fun c0 => absurd c0 (by decide)) (fun _ => ?_)
  refine lv_iconst (v := 0) hx hb dX7_frictionFor_19 (by decide) ?_
  refine lv_goto (tgt := 24) hx hb dX7_frictionFor_20 (by decide) ?_
  refine s_cVi (ws' := [(o, moE (f_X7_refused_o g 0) hs a b c_)]) C hK hA X (c_X7_refused l D ty o a b c_ g hs 0) [0] (pk_c rfl pk_n) rfl (pk_c rfl pk_n) (em_t em_n) rfl ml_X7_refused wm_X7_29 (q0 := 0) rfl rfl rfl ⟨Nat.le_of_ble_eq_true rfl, Nat.le_of_ble_eq_true rfl⟩ ⟨Nat.zero_le _, Nat.zero_le _⟩ hl.1 rfl (Nat.le_of_ble_eq_true rfl) dX7_frictionFor_24 (fun H locs X => ?_)
  refine s_eqi (y := 0) (by decide) ?_
  refine lv_if_eq (tgt := 34) hx hb dX7_frictionFor_27 (by decide) (fun _ => ?_) (fun c0 => absurd (by decide) c0)
  refine lv_iload_n hx hb dX7_frictionFor_34 rfl (lv_at hl 1 rfl) ?_
  refine lv_iload_n hx hb dX7_frictionFor_35 rfl (lv_at hl 2 rfl) ?_
  refine s_cS0i C hK hA X (c_X7_frictionOf l D ty V U) [] pk_n rfl sl_X7_frictionOf wm_X7_56 ⟨Nat.le_of_ble_eq_true rfl, Nat.le_of_ble_eq_true rfl⟩ ⟨Nat.zero_le _, Nat.zero_le _⟩ hl.1 rfl (Nat.le_of_ble_eq_true rfl) dX7_frictionFor_36 (fun H locs X => ?_)
  have e_0_0 : (f_X7_frictionFor_ok_o g) = (f_X7_refused_o g 0) := by first | (rw [f_X7_frictionFor_ok_o]; done) | (rw [f_X7_frictionFor_ok_o]; rfl) | (simp only [f_X7_frictionFor_ok_o]; done)
  exact hret _ _ _ _ _ _ dX7_frictionFor_39 X (by rw [e_0_0]) (by first | (rw [f_X7_frictionFor_ok]; done) | (rw [f_X7_frictionFor_ok]; rfl) | (simp only [f_X7_frictionFor_ok]; done))
def f_X7_frictionFor_no1_o (g : F1) : F1 := (f_X7_refused_o g 1)
set_option maxHeartbeats 4000000 in
set_option maxRecDepth 100000 in
theorem c_X7_frictionFor_no1 (l : Launch) (D : va_G) (ty : Nat → ClassId) (o : Nat) (a : Nat) (b : Nat) (c_ : Nat) (g : F1) (hs : Int64) (V : Int32) (U : Int32) (hv : f_X7_isSurface V = 0) : MC l D ty yX7_frictionFor cX7_frictionFor 3 (some .int) 2 [.ref o, .int V, .int U] [(o, moE g hs a b c_)] (some (.int 0)) [(o, moE (f_X7_frictionFor_no1_o g) hs a b c_)] := by
  refine mc_i (by decide +kernel) (Nat.le_of_ble_eq_true rfl) ?_
  intro p e s m args below meth c A Q ls C hK hA X hret hl
  have hx := C.1
  have hb := C.2.1
  have hl : lv_has ls 3 [(0, .ref o), (1, .int V), (2, .int U)] := hl
  have X : Wd D A s.heap [(o, moE g hs a b c_)] s.heap [] := X
  refine lv_aload_n hx hb dX7_frictionFor_0 rfl (lv_at hl 0 rfl) ?_
  refine lv_iload_n hx hb dX7_frictionFor_1 rfl (lv_at hl 1 rfl) ?_
  refine s_cS0i C hK hA X (c_X7_isSurface l D ty V) [] pk_n rfl sl_X7_isSurface wm_X7_150 ⟨Nat.le_of_ble_eq_true rfl, Nat.le_of_ble_eq_true rfl⟩ ⟨Nat.zero_le _, Nat.zero_le _⟩ hl.1 rfl (Nat.le_of_ble_eq_true rfl) dX7_frictionFor_2 (fun H locs X => ?_)
  refine s_eqi (y := 0) (hv) ?_
  refine lv_if_eq (tgt := 23) hx hb dX7_frictionFor_5 (by decide) (fun _ => ?_) (fun c0 => absurd (by decide) c0)
  refine lv_iconst (v := 1) hx hb dX7_frictionFor_23 (by decide) ?_
  refine s_cVi (ws' := [(o, moE (f_X7_refused_o g 1) hs a b c_)]) C hK hA X (c_X7_refused l D ty o a b c_ g hs 1) [0] (pk_c rfl pk_n) rfl (pk_c rfl pk_n) (em_t em_n) rfl ml_X7_refused wm_X7_29 (q0 := 0) rfl rfl rfl ⟨Nat.le_of_ble_eq_true rfl, Nat.le_of_ble_eq_true rfl⟩ ⟨Nat.zero_le _, Nat.zero_le _⟩ hl.1 rfl (Nat.le_of_ble_eq_true rfl) dX7_frictionFor_24 (fun H locs X => ?_)
  refine s_eqi (y := 1) (by decide) ?_
  refine lv_if_eq (tgt := 34) hx hb dX7_frictionFor_27 (by decide) (fun c0 => absurd c0 (by decide)) (fun _ => ?_)
  refine lv_iconst (v := 0) hx hb dX7_frictionFor_30 (by decide) ?_
  refine lv_goto (tgt := 39) hx hb dX7_frictionFor_31 (by decide) ?_
  have e_0_0 : (f_X7_frictionFor_no1_o g) = (f_X7_refused_o g 1) := by first | (rw [f_X7_frictionFor_no1_o]; done) | (rw [f_X7_frictionFor_no1_o]; rfl) | (simp only [f_X7_frictionFor_no1_o]; done)
  exact hret _ _ _ _ _ _ dX7_frictionFor_39 X (by rw [e_0_0]) rfl
def f_X7_frictionFor_no2_o (g : F1) : F1 := (f_X7_refused_o g 1)
set_option maxHeartbeats 4000000 in
set_option maxRecDepth 100000 in
theorem c_X7_frictionFor_no2 (l : Launch) (D : va_G) (ty : Nat → ClassId) (o : Nat) (a : Nat) (b : Nat) (c_ : Nat) (g : F1) (hs : Int64) (V : Int32) (U : Int32) (hv : f_X7_isSurface V = 1) (hw : f_X7_within U 0 1000 = 0) : MC l D ty yX7_frictionFor cX7_frictionFor 3 (some .int) 2 [.ref o, .int V, .int U] [(o, moE g hs a b c_)] (some (.int 0)) [(o, moE (f_X7_frictionFor_no2_o g) hs a b c_)] := by
  refine mc_i (by decide +kernel) (Nat.le_of_ble_eq_true rfl) ?_
  intro p e s m args below meth c A Q ls C hK hA X hret hl
  have hx := C.1
  have hb := C.2.1
  have hl : lv_has ls 3 [(0, .ref o), (1, .int V), (2, .int U)] := hl
  have X : Wd D A s.heap [(o, moE g hs a b c_)] s.heap [] := X
  refine lv_aload_n hx hb dX7_frictionFor_0 rfl (lv_at hl 0 rfl) ?_
  refine lv_iload_n hx hb dX7_frictionFor_1 rfl (lv_at hl 1 rfl) ?_
  refine s_cS0i C hK hA X (c_X7_isSurface l D ty V) [] pk_n rfl sl_X7_isSurface wm_X7_150 ⟨Nat.le_of_ble_eq_true rfl, Nat.le_of_ble_eq_true rfl⟩ ⟨Nat.zero_le _, Nat.zero_le _⟩ hl.1 rfl (Nat.le_of_ble_eq_true rfl) dX7_frictionFor_2 (fun H locs X => ?_)
  refine s_eqi (y := 1) (hv) ?_
  refine lv_if_eq (tgt := 23) hx hb dX7_frictionFor_5 (by decide) (fun c0 => absurd c0 (by decide)) (fun _ => ?_)
  refine lv_iload_n hx hb dX7_frictionFor_8 rfl (lv_at hl 2 rfl) ?_
  refine lv_iconst (v := 0) hx hb dX7_frictionFor_9 (by decide) ?_
  refine lv_sipush (v := 1000) hx hb dX7_frictionFor_10 (by decide) ?_
  refine s_cS0i C hK hA X (c_X7_within l D ty U 0 1000) [] pk_n rfl sl_X7_within wm_X7_37 ⟨Nat.le_of_ble_eq_true rfl, Nat.le_of_ble_eq_true rfl⟩ ⟨Nat.zero_le _, Nat.zero_le _⟩ hl.1 rfl (Nat.le_of_ble_eq_true rfl) dX7_frictionFor_13 (fun H locs X => ?_)
  refine s_eqi (y := 0) (hw) ?_
  refine lv_if_eq (tgt := 23) hx hb dX7_frictionFor_16 (by decide) (fun _ => ?_) (fun c0 => absurd (by decide) c0)
  refine lv_iconst (v := 1) hx hb dX7_frictionFor_23 (by decide) ?_
  refine s_cVi (ws' := [(o, moE (f_X7_refused_o g 1) hs a b c_)]) C hK hA X (c_X7_refused l D ty o a b c_ g hs 1) [0] (pk_c rfl pk_n) rfl (pk_c rfl pk_n) (em_t em_n) rfl ml_X7_refused wm_X7_29 (q0 := 0) rfl rfl rfl ⟨Nat.le_of_ble_eq_true rfl, Nat.le_of_ble_eq_true rfl⟩ ⟨Nat.zero_le _, Nat.zero_le _⟩ hl.1 rfl (Nat.le_of_ble_eq_true rfl) dX7_frictionFor_24 (fun H locs X => ?_)
  refine s_eqi (y := 1) (by decide) ?_
  refine lv_if_eq (tgt := 34) hx hb dX7_frictionFor_27 (by decide) (fun c0 => absurd c0 (by decide)) (fun _ => ?_)
  refine lv_iconst (v := 0) hx hb dX7_frictionFor_30 (by decide) ?_
  refine lv_goto (tgt := 39) hx hb dX7_frictionFor_31 (by decide) ?_
  have e_0_0 : (f_X7_frictionFor_no2_o g) = (f_X7_refused_o g 1) := by first | (rw [f_X7_frictionFor_no2_o]; done) | (rw [f_X7_frictionFor_no2_o]; rfl) | (simp only [f_X7_frictionFor_no2_o]; done)
  exact hret _ _ _ _ _ _ dX7_frictionFor_39 X (by rw [e_0_0]) rfl
def f_X7_segments_o (g : F1) : F1 := (upd g 1 0)
set_option maxHeartbeats 4000000 in
set_option maxRecDepth 100000 in
theorem c_X7_segments (l : Launch) (D : va_G) (ty : Nat → ClassId) (o : Nat) (a : Nat) (b : Nat) (c_ : Nat) (g : F1) (hs : Int64) (n : F1) : MC l D ty yX7_segments cX7_segments 1 (some .int) 0 [.ref o] [(o, moE g hs a b c_), (a, arE ty 253 n)] (some (.int (n 74))) [(o, moE (f_X7_segments_o g) hs a b c_), (a, arE ty 253 n)] := by
  refine mc_i (by decide +kernel) (Nat.le_of_ble_eq_true rfl) ?_
  intro p e s m args below meth c A Q ls C hK hA X hret hl
  have hx := C.1
  have hb := C.2.1
  have hl : lv_has ls 1 [(0, .ref o)] := hl
  have X : Wd D A s.heap [(o, moE g hs a b c_), (a, arE ty 253 n)] s.heap [] := X
  refine lv_aload_n hx hb dX7_segments_0 rfl (lv_at hl 0 rfl) ?_
  refine lv_iconst (v := 0) hx hb dX7_segments_1 (by decide) ?_
  refine put_mo_4 C hK X 0 rfl pl_X7_22 dX7_segments_2 (fun H locs X => ?_)
  have X : Wd D A s.heap [(o, moE (upd g 1 0) hs a b c_), (a, arE ty 253 n)] H locs := X
  refine lv_aload_n hx hb dX7_segments_5 rfl (lv_at hl 0 rfl) ?_
  refine get_mo_0 C hK X 0 rfl fl_X7_7 dX7_segments_6 ?_
  refine lv_bipush (v := 74) hx hb dX7_segments_9 (by decide) ?_
  refine s_ialN C hK X 1 74 rfl rfl (by decide) (by decide) dX7_segments_11 ?_
  have e_0_0 : (f_X7_segments_o g) = (upd g 1 0) := by first | (rw [f_X7_segments_o]; done) | (rw [f_X7_segments_o]; rfl) | (simp only [f_X7_segments_o]; done)
  exact hret _ _ _ _ _ _ dX7_segments_12 X (by rw [e_0_0]) rfl
def f_X7_planned_o (g : F1) : F1 := (upd g 1 0)
set_option maxHeartbeats 4000000 in
set_option maxRecDepth 100000 in
theorem c_X7_planned (l : Launch) (D : va_G) (ty : Nat → ClassId) (o : Nat) (a : Nat) (b : Nat) (c_ : Nat) (g : F1) (hs : Int64) (n : F1) : MC l D ty yX7_planned cX7_planned 1 (some .int) 0 [.ref o] [(o, moE g hs a b c_), (a, arE ty 253 n)] (some (.int (n 111))) [(o, moE (f_X7_planned_o g) hs a b c_), (a, arE ty 253 n)] := by
  refine mc_i (by decide +kernel) (Nat.le_of_ble_eq_true rfl) ?_
  intro p e s m args below meth c A Q ls C hK hA X hret hl
  have hx := C.1
  have hb := C.2.1
  have hl : lv_has ls 1 [(0, .ref o)] := hl
  have X : Wd D A s.heap [(o, moE g hs a b c_), (a, arE ty 253 n)] s.heap [] := X
  refine lv_aload_n hx hb dX7_planned_0 rfl (lv_at hl 0 rfl) ?_
  refine lv_iconst (v := 0) hx hb dX7_planned_1 (by decide) ?_
  refine put_mo_4 C hK X 0 rfl pl_X7_22 dX7_planned_2 (fun H locs X => ?_)
  have X : Wd D A s.heap [(o, moE (upd g 1 0) hs a b c_), (a, arE ty 253 n)] H locs := X
  refine lv_aload_n hx hb dX7_planned_5 rfl (lv_at hl 0 rfl) ?_
  refine get_mo_0 C hK X 0 rfl fl_X7_7 dX7_planned_6 ?_
  refine lv_bipush (v := 111) hx hb dX7_planned_9 (by decide) ?_
  refine s_ialN C hK X 1 111 rfl rfl (by decide) (by decide) dX7_planned_11 ?_
  have e_0_0 : (f_X7_planned_o g) = (upd g 1 0) := by first | (rw [f_X7_planned_o]; done) | (rw [f_X7_planned_o]; rfl) | (simp only [f_X7_planned_o]; done)
  exact hret _ _ _ _ _ _ dX7_planned_12 X (by rw [e_0_0]) rfl
def f_X7_events_o (g : F1) : F1 := (upd g 1 0)
set_option maxHeartbeats 4000000 in
set_option maxRecDepth 100000 in
theorem c_X7_events (l : Launch) (D : va_G) (ty : Nat → ClassId) (o : Nat) (a : Nat) (b : Nat) (c_ : Nat) (g : F1) (hs : Int64) (n : F1) : MC l D ty yX7_events cX7_events 1 (some .int) 0 [.ref o] [(o, moE g hs a b c_), (a, arE ty 253 n)] (some (.int (n 132))) [(o, moE (f_X7_events_o g) hs a b c_), (a, arE ty 253 n)] := by
  refine mc_i (by decide +kernel) (Nat.le_of_ble_eq_true rfl) ?_
  intro p e s m args below meth c A Q ls C hK hA X hret hl
  have hx := C.1
  have hb := C.2.1
  have hl : lv_has ls 1 [(0, .ref o)] := hl
  have X : Wd D A s.heap [(o, moE g hs a b c_), (a, arE ty 253 n)] s.heap [] := X
  refine lv_aload_n hx hb dX7_events_0 rfl (lv_at hl 0 rfl) ?_
  refine lv_iconst (v := 0) hx hb dX7_events_1 (by decide) ?_
  refine put_mo_4 C hK X 0 rfl pl_X7_22 dX7_events_2 (fun H locs X => ?_)
  have X : Wd D A s.heap [(o, moE (upd g 1 0) hs a b c_), (a, arE ty 253 n)] H locs := X
  refine lv_aload_n hx hb dX7_events_5 rfl (lv_at hl 0 rfl) ?_
  refine get_mo_0 C hK X 0 rfl fl_X7_7 dX7_events_6 ?_
  refine lv_sipush (v := 132) hx hb dX7_events_9 (by decide) ?_
  refine s_ialN C hK X 1 132 rfl rfl (by decide) (by decide) dX7_events_12 ?_
  have e_0_0 : (f_X7_events_o g) = (upd g 1 0) := by first | (rw [f_X7_events_o]; done) | (rw [f_X7_events_o]; rfl) | (simp only [f_X7_events_o]; done)
  exact hret _ _ _ _ _ _ dX7_events_13 X (by rw [e_0_0]) rfl
def f_X7_segment_ok (n : F1) (ix : Nat) (k : Nat) : Int32 := (n (75 + 3 * ix + k))
def f_X7_segment_ok_o (g : F1) : F1 := (f_X7_refused_o g 0)
set_option maxHeartbeats 4000000 in
set_option maxRecDepth 100000 in
theorem c_X7_segment_ok (l : Launch) (D : va_G) (ty : Nat → ClassId) (o : Nat) (a : Nat) (b : Nat) (c_ : Nat) (g : F1) (hs : Int64) (n : F1) (ix : Nat) (k : Nat) (hM : MOK n) (hix : ix < sN n) (hk9 : k ≤ 2) (hv : f_X7_within (nI ix) 0 (n 74 - 1) = 1) (hw : f_X7_within (nI k) 0 2 = 1) : MC l D ty yX7_segment cX7_segment 3 (some .int) 1 [.ref o, .int (nI ix), .int (nI k)] [(o, moE g hs a b c_), (a, arE ty 253 n)] (some (.int (f_X7_segment_ok n ix k))) [(o, moE (f_X7_segment_ok_o g) hs a b c_), (a, arE ty 253 n)] := by
  refine mc_i (by decide +kernel) (Nat.le_of_ble_eq_true rfl) ?_
  intro p e s m args below meth c A Q ls C hK hA X hret hl
  have hx := C.1
  have hb := C.2.1
  have hl : lv_has ls 3 [(0, .ref o), (1, .int (nI ix)), (2, .int (nI k))] := hl
  have X : Wd D A s.heap [(o, moE g hs a b c_), (a, arE ty 253 n)] s.heap [] := X
  have hsn := sN_eq hM
  refine lv_aload_n hx hb dX7_segment_0 rfl (lv_at hl 0 rfl) ?_
  refine lv_iload_n hx hb dX7_segment_1 rfl (lv_at hl 1 rfl) ?_
  refine lv_iconst (v := 0) hx hb dX7_segment_2 (by decide) ?_
  refine lv_aload_n hx hb dX7_segment_3 rfl (lv_at hl 0 rfl) ?_
  refine get_mo_0 C hK X 0 rfl fl_X7_7 dX7_segment_4 ?_
  refine lv_bipush (v := 74) hx hb dX7_segment_7 (by decide) ?_
  refine s_ialN C hK X 1 74 rfl rfl (by decide) (by decide) dX7_segment_9 ?_
  refine lv_iconst (v := 1) hx hb dX7_segment_10 (by decide) ?_
  refine lv_isub hx hb dX7_segment_11 ?_
  refine s_cS0i C hK hA X (c_X7_within l D ty (nI ix) 0 ((n 74) - 1)) [] pk_n rfl sl_X7_within wm_X7_37 ⟨Nat.le_of_ble_eq_true rfl, Nat.le_of_ble_eq_true rfl⟩ ⟨Nat.zero_le _, Nat.zero_le _⟩ hl.1 rfl (Nat.le_of_ble_eq_true rfl) dX7_segment_12 (fun H locs X => ?_)
  refine s_eqi (y := 1) (hv) ?_
  refine lv_if_ne (tgt := 22) hx hb dX7_segment_15 (by decide) (fun _ => ?_) (fun c0 => absurd c0 (by decide))
  refine lv_iload_n hx hb dX7_segment_22 rfl (lv_at hl 2 rfl) ?_
  refine lv_iconst (v := 0) hx hb dX7_segment_23 (by decide) ?_
  refine lv_iconst (v := 2) hx hb dX7_segment_24 (by decide) ?_
  refine s_cS0i C hK hA X (c_X7_within l D ty (nI k) 0 2) [] pk_n rfl sl_X7_within wm_X7_37 ⟨Nat.le_of_ble_eq_true rfl, Nat.le_of_ble_eq_true rfl⟩ ⟨Nat.zero_le _, Nat.zero_le _⟩ hl.1 rfl (Nat.le_of_ble_eq_true rfl) dX7_segment_25 (fun H locs X => ?_)
  refine s_eqi (y := 1) (hw) ?_
  refine lv_if_eq (tgt := 35) hx hb dX7_segment_28 (by decide) (fun c0 => absurd c0 (by decide)) (fun _ => ?_)
  refine lv_iconst (v := 0) hx hb dX7_segment_31 (by decide) ?_
  refine lv_goto (tgt := 36) hx hb dX7_segment_32 (by decide) ?_
  refine s_cVi (ws' := [(o, moE (f_X7_refused_o g 0) hs a b c_), (a, arE ty 253 n)]) C hK hA X (c_X7_refused l D ty o a b c_ g hs 0) [0] (pk_c rfl pk_n) rfl (pk_c rfl pk_n) (em_t (em_f em_n)) rfl ml_X7_refused wm_X7_29 (q0 := 0) rfl rfl rfl ⟨Nat.le_of_ble_eq_true rfl, Nat.le_of_ble_eq_true rfl⟩ ⟨Nat.zero_le _, Nat.zero_le _⟩ hl.1 rfl (Nat.le_of_ble_eq_true rfl) dX7_segment_36 (fun H locs X => ?_)
  refine s_eqi (y := 0) (by decide) ?_
  refine lv_if_eq (tgt := 46) hx hb dX7_segment_39 (by decide) (fun _ => ?_) (fun c0 => absurd (by decide) c0)
  refine lv_aload_n hx hb dX7_segment_46 rfl (lv_at hl 0 rfl) ?_
  refine get_mo_0 C hK X 0 rfl fl_X7_7 dX7_segment_47 ?_
  refine lv_bipush (v := 75) hx hb dX7_segment_50 (by decide) ?_
  refine lv_iconst (v := 3) hx hb dX7_segment_52 (by decide) ?_
  refine lv_iload_n hx hb dX7_segment_53 rfl (lv_at hl 1 rfl) ?_
  refine lv_imul hx hb dX7_segment_54 ?_
  refine lv_iadd hx hb dX7_segment_55 ?_
  refine s_eqi (y := nI (75 + 3 * ix)) (lin 3 75 ix) ?_
  refine lv_iload_n hx hb dX7_segment_56 rfl (lv_at hl 2 rfl) ?_
  refine lv_iadd hx hb dX7_segment_57 ?_
  refine s_eqi (y := nI (75 + 3 * ix + k)) (nI_add _ _) ?_
  refine s_ialN C hK X 1 (75 + 3 * ix + k) rfl rfl (by omega) (by decide) dX7_segment_58 ?_
  have e_0_0 : (f_X7_segment_ok_o g) = (f_X7_refused_o g 0) := by first | (rw [f_X7_segment_ok_o]; done) | (rw [f_X7_segment_ok_o]; rfl) | (simp only [f_X7_segment_ok_o]; done)
  exact hret _ _ _ _ _ _ dX7_segment_59 X (by rw [e_0_0]) (by first | (rw [f_X7_segment_ok]; done) | (rw [f_X7_segment_ok]; rfl) | (simp only [f_X7_segment_ok]; done))
def f_X7_segment_no1_o (g : F1) : F1 := (f_X7_refused_o g 1)
set_option maxHeartbeats 4000000 in
set_option maxRecDepth 100000 in
theorem c_X7_segment_no1 (l : Launch) (D : va_G) (ty : Nat → ClassId) (o : Nat) (a : Nat) (b : Nat) (c_ : Nat) (g : F1) (hs : Int64) (n : F1) (V : Int32) (U : Int32) (hv : f_X7_within V 0 (n 74 - 1) = 0) : MC l D ty yX7_segment cX7_segment 3 (some .int) 1 [.ref o, .int V, .int U] [(o, moE g hs a b c_), (a, arE ty 253 n)] (some (.int 0)) [(o, moE (f_X7_segment_no1_o g) hs a b c_), (a, arE ty 253 n)] := by
  refine mc_i (by decide +kernel) (Nat.le_of_ble_eq_true rfl) ?_
  intro p e s m args below meth c A Q ls C hK hA X hret hl
  have hx := C.1
  have hb := C.2.1
  have hl : lv_has ls 3 [(0, .ref o), (1, .int V), (2, .int U)] := hl
  have X : Wd D A s.heap [(o, moE g hs a b c_), (a, arE ty 253 n)] s.heap [] := X
  refine lv_aload_n hx hb dX7_segment_0 rfl (lv_at hl 0 rfl) ?_
  refine lv_iload_n hx hb dX7_segment_1 rfl (lv_at hl 1 rfl) ?_
  refine lv_iconst (v := 0) hx hb dX7_segment_2 (by decide) ?_
  refine lv_aload_n hx hb dX7_segment_3 rfl (lv_at hl 0 rfl) ?_
  refine get_mo_0 C hK X 0 rfl fl_X7_7 dX7_segment_4 ?_
  refine lv_bipush (v := 74) hx hb dX7_segment_7 (by decide) ?_
  refine s_ialN C hK X 1 74 rfl rfl (by decide) (by decide) dX7_segment_9 ?_
  refine lv_iconst (v := 1) hx hb dX7_segment_10 (by decide) ?_
  refine lv_isub hx hb dX7_segment_11 ?_
  refine s_cS0i C hK hA X (c_X7_within l D ty V 0 ((n 74) - 1)) [] pk_n rfl sl_X7_within wm_X7_37 ⟨Nat.le_of_ble_eq_true rfl, Nat.le_of_ble_eq_true rfl⟩ ⟨Nat.zero_le _, Nat.zero_le _⟩ hl.1 rfl (Nat.le_of_ble_eq_true rfl) dX7_segment_12 (fun H locs X => ?_)
  refine s_eqi (y := 0) (hv) ?_
  refine lv_if_ne (tgt := 22) hx hb dX7_segment_15 (by decide) (fun c0 => absurd (by decide) c0) (fun _ => ?_)
  refine lv_iconst (v := 1) hx hb dX7_segment_18 (by decide) ?_
  refine lv_goto (tgt := 36) hx hb dX7_segment_19 (by decide) ?_
  refine s_cVi (ws' := [(o, moE (f_X7_refused_o g 1) hs a b c_), (a, arE ty 253 n)]) C hK hA X (c_X7_refused l D ty o a b c_ g hs 1) [0] (pk_c rfl pk_n) rfl (pk_c rfl pk_n) (em_t (em_f em_n)) rfl ml_X7_refused wm_X7_29 (q0 := 0) rfl rfl rfl ⟨Nat.le_of_ble_eq_true rfl, Nat.le_of_ble_eq_true rfl⟩ ⟨Nat.zero_le _, Nat.zero_le _⟩ hl.1 rfl (Nat.le_of_ble_eq_true rfl) dX7_segment_36 (fun H locs X => ?_)
  refine s_eqi (y := 1) (by decide) ?_
  refine lv_if_eq (tgt := 46) hx hb dX7_segment_39 (by decide) (fun c0 => absurd c0 (by decide)) (fun _ => ?_)
  refine lv_iconst (v := 0) hx hb dX7_segment_42 (by decide) ?_
  refine lv_goto (tgt := 59) hx hb dX7_segment_43 (by decide) ?_
  have e_0_0 : (f_X7_segment_no1_o g) = (f_X7_refused_o g 1) := by first | (rw [f_X7_segment_no1_o]; done) | (rw [f_X7_segment_no1_o]; rfl) | (simp only [f_X7_segment_no1_o]; done)
  exact hret _ _ _ _ _ _ dX7_segment_59 X (by rw [e_0_0]) rfl
def f_X7_segment_no2_o (g : F1) : F1 := (f_X7_refused_o g 2)
set_option maxHeartbeats 4000000 in
set_option maxRecDepth 100000 in
theorem c_X7_segment_no2 (l : Launch) (D : va_G) (ty : Nat → ClassId) (o : Nat) (a : Nat) (b : Nat) (c_ : Nat) (g : F1) (hs : Int64) (n : F1) (V : Int32) (U : Int32) (hv : f_X7_within V 0 (n 74 - 1) = 1) (hw : f_X7_within U 0 2 = 0) : MC l D ty yX7_segment cX7_segment 3 (some .int) 1 [.ref o, .int V, .int U] [(o, moE g hs a b c_), (a, arE ty 253 n)] (some (.int 0)) [(o, moE (f_X7_segment_no2_o g) hs a b c_), (a, arE ty 253 n)] := by
  refine mc_i (by decide +kernel) (Nat.le_of_ble_eq_true rfl) ?_
  intro p e s m args below meth c A Q ls C hK hA X hret hl
  have hx := C.1
  have hb := C.2.1
  have hl : lv_has ls 3 [(0, .ref o), (1, .int V), (2, .int U)] := hl
  have X : Wd D A s.heap [(o, moE g hs a b c_), (a, arE ty 253 n)] s.heap [] := X
  refine lv_aload_n hx hb dX7_segment_0 rfl (lv_at hl 0 rfl) ?_
  refine lv_iload_n hx hb dX7_segment_1 rfl (lv_at hl 1 rfl) ?_
  refine lv_iconst (v := 0) hx hb dX7_segment_2 (by decide) ?_
  refine lv_aload_n hx hb dX7_segment_3 rfl (lv_at hl 0 rfl) ?_
  refine get_mo_0 C hK X 0 rfl fl_X7_7 dX7_segment_4 ?_
  refine lv_bipush (v := 74) hx hb dX7_segment_7 (by decide) ?_
  refine s_ialN C hK X 1 74 rfl rfl (by decide) (by decide) dX7_segment_9 ?_
  refine lv_iconst (v := 1) hx hb dX7_segment_10 (by decide) ?_
  refine lv_isub hx hb dX7_segment_11 ?_
  refine s_cS0i C hK hA X (c_X7_within l D ty V 0 ((n 74) - 1)) [] pk_n rfl sl_X7_within wm_X7_37 ⟨Nat.le_of_ble_eq_true rfl, Nat.le_of_ble_eq_true rfl⟩ ⟨Nat.zero_le _, Nat.zero_le _⟩ hl.1 rfl (Nat.le_of_ble_eq_true rfl) dX7_segment_12 (fun H locs X => ?_)
  refine s_eqi (y := 1) (hv) ?_
  refine lv_if_ne (tgt := 22) hx hb dX7_segment_15 (by decide) (fun _ => ?_) (fun c0 => absurd c0 (by decide))
  refine lv_iload_n hx hb dX7_segment_22 rfl (lv_at hl 2 rfl) ?_
  refine lv_iconst (v := 0) hx hb dX7_segment_23 (by decide) ?_
  refine lv_iconst (v := 2) hx hb dX7_segment_24 (by decide) ?_
  refine s_cS0i C hK hA X (c_X7_within l D ty U 0 2) [] pk_n rfl sl_X7_within wm_X7_37 ⟨Nat.le_of_ble_eq_true rfl, Nat.le_of_ble_eq_true rfl⟩ ⟨Nat.zero_le _, Nat.zero_le _⟩ hl.1 rfl (Nat.le_of_ble_eq_true rfl) dX7_segment_25 (fun H locs X => ?_)
  refine s_eqi (y := 0) (hw) ?_
  refine lv_if_eq (tgt := 35) hx hb dX7_segment_28 (by decide) (fun _ => ?_) (fun c0 => absurd (by decide) c0)
  refine lv_iconst (v := 2) hx hb dX7_segment_35 (by decide) ?_
  refine s_cVi (ws' := [(o, moE (f_X7_refused_o g 2) hs a b c_), (a, arE ty 253 n)]) C hK hA X (c_X7_refused l D ty o a b c_ g hs 2) [0] (pk_c rfl pk_n) rfl (pk_c rfl pk_n) (em_t (em_f em_n)) rfl ml_X7_refused wm_X7_29 (q0 := 0) rfl rfl rfl ⟨Nat.le_of_ble_eq_true rfl, Nat.le_of_ble_eq_true rfl⟩ ⟨Nat.zero_le _, Nat.zero_le _⟩ hl.1 rfl (Nat.le_of_ble_eq_true rfl) dX7_segment_36 (fun H locs X => ?_)
  refine s_eqi (y := 1) (by decide) ?_
  refine lv_if_eq (tgt := 46) hx hb dX7_segment_39 (by decide) (fun c0 => absurd c0 (by decide)) (fun _ => ?_)
  refine lv_iconst (v := 0) hx hb dX7_segment_42 (by decide) ?_
  refine lv_goto (tgt := 59) hx hb dX7_segment_43 (by decide) ?_
  have e_0_0 : (f_X7_segment_no2_o g) = (f_X7_refused_o g 2) := by first | (rw [f_X7_segment_no2_o]; done) | (rw [f_X7_segment_no2_o]; rfl) | (simp only [f_X7_segment_no2_o]; done)
  exact hret _ _ _ _ _ _ dX7_segment_59 X (by rw [e_0_0]) rfl
def f_X7_event_ok (n : F1) (ix : Nat) (k : Nat) : Int32 := (n (133 + 3 * ix + k))
def f_X7_event_ok_o (g : F1) : F1 := (f_X7_refused_o g 0)
set_option maxHeartbeats 4000000 in
set_option maxRecDepth 100000 in
theorem c_X7_event_ok (l : Launch) (D : va_G) (ty : Nat → ClassId) (o : Nat) (a : Nat) (b : Nat) (c_ : Nat) (g : F1) (hs : Int64) (n : F1) (ix : Nat) (k : Nat) (hM : MOK n) (hix : ix < eN n) (hk9 : k ≤ 2) (hv : f_X7_within (nI ix) 0 (n 132 - 1) = 1) (hw : f_X7_within (nI k) 0 2 = 1) : MC l D ty yX7_event cX7_event 3 (some .int) 1 [.ref o, .int (nI ix), .int (nI k)] [(o, moE g hs a b c_), (a, arE ty 253 n)] (some (.int (f_X7_event_ok n ix k))) [(o, moE (f_X7_event_ok_o g) hs a b c_), (a, arE ty 253 n)] := by
  refine mc_i (by decide +kernel) (Nat.le_of_ble_eq_true rfl) ?_
  intro p e s m args below meth c A Q ls C hK hA X hret hl
  have hx := C.1
  have hb := C.2.1
  have hl : lv_has ls 3 [(0, .ref o), (1, .int (nI ix)), (2, .int (nI k))] := hl
  have X : Wd D A s.heap [(o, moE g hs a b c_), (a, arE ty 253 n)] s.heap [] := X
  have hsn := eN_eq hM
  refine lv_aload_n hx hb dX7_event_0 rfl (lv_at hl 0 rfl) ?_
  refine lv_iload_n hx hb dX7_event_1 rfl (lv_at hl 1 rfl) ?_
  refine lv_iconst (v := 0) hx hb dX7_event_2 (by decide) ?_
  refine lv_aload_n hx hb dX7_event_3 rfl (lv_at hl 0 rfl) ?_
  refine get_mo_0 C hK X 0 rfl fl_X7_7 dX7_event_4 ?_
  refine lv_sipush (v := 132) hx hb dX7_event_7 (by decide) ?_
  refine s_ialN C hK X 1 132 rfl rfl (by decide) (by decide) dX7_event_10 ?_
  refine lv_iconst (v := 1) hx hb dX7_event_11 (by decide) ?_
  refine lv_isub hx hb dX7_event_12 ?_
  refine s_cS0i C hK hA X (c_X7_within l D ty (nI ix) 0 ((n 132) - 1)) [] pk_n rfl sl_X7_within wm_X7_37 ⟨Nat.le_of_ble_eq_true rfl, Nat.le_of_ble_eq_true rfl⟩ ⟨Nat.zero_le _, Nat.zero_le _⟩ hl.1 rfl (Nat.le_of_ble_eq_true rfl) dX7_event_13 (fun H locs X => ?_)
  refine s_eqi (y := 1) (hv) ?_
  refine lv_if_ne (tgt := 23) hx hb dX7_event_16 (by decide) (fun _ => ?_) (fun c0 => absurd c0 (by decide))
  refine lv_iload_n hx hb dX7_event_23 rfl (lv_at hl 2 rfl) ?_
  refine lv_iconst (v := 0) hx hb dX7_event_24 (by decide) ?_
  refine lv_iconst (v := 2) hx hb dX7_event_25 (by decide) ?_
  refine s_cS0i C hK hA X (c_X7_within l D ty (nI k) 0 2) [] pk_n rfl sl_X7_within wm_X7_37 ⟨Nat.le_of_ble_eq_true rfl, Nat.le_of_ble_eq_true rfl⟩ ⟨Nat.zero_le _, Nat.zero_le _⟩ hl.1 rfl (Nat.le_of_ble_eq_true rfl) dX7_event_26 (fun H locs X => ?_)
  refine s_eqi (y := 1) (hw) ?_
  refine lv_if_eq (tgt := 36) hx hb dX7_event_29 (by decide) (fun c0 => absurd c0 (by decide)) (fun _ => ?_)
  refine lv_iconst (v := 0) hx hb dX7_event_32 (by decide) ?_
  refine lv_goto (tgt := 37) hx hb dX7_event_33 (by decide) ?_
  refine s_cVi (ws' := [(o, moE (f_X7_refused_o g 0) hs a b c_), (a, arE ty 253 n)]) C hK hA X (c_X7_refused l D ty o a b c_ g hs 0) [0] (pk_c rfl pk_n) rfl (pk_c rfl pk_n) (em_t (em_f em_n)) rfl ml_X7_refused wm_X7_29 (q0 := 0) rfl rfl rfl ⟨Nat.le_of_ble_eq_true rfl, Nat.le_of_ble_eq_true rfl⟩ ⟨Nat.zero_le _, Nat.zero_le _⟩ hl.1 rfl (Nat.le_of_ble_eq_true rfl) dX7_event_37 (fun H locs X => ?_)
  refine s_eqi (y := 0) (by decide) ?_
  refine lv_if_eq (tgt := 47) hx hb dX7_event_40 (by decide) (fun _ => ?_) (fun c0 => absurd (by decide) c0)
  refine lv_aload_n hx hb dX7_event_47 rfl (lv_at hl 0 rfl) ?_
  refine get_mo_0 C hK X 0 rfl fl_X7_7 dX7_event_48 ?_
  refine lv_sipush (v := 133) hx hb dX7_event_51 (by decide) ?_
  refine lv_iconst (v := 3) hx hb dX7_event_54 (by decide) ?_
  refine lv_iload_n hx hb dX7_event_55 rfl (lv_at hl 1 rfl) ?_
  refine lv_imul hx hb dX7_event_56 ?_
  refine lv_iadd hx hb dX7_event_57 ?_
  refine s_eqi (y := nI (133 + 3 * ix)) (lin 3 133 ix) ?_
  refine lv_iload_n hx hb dX7_event_58 rfl (lv_at hl 2 rfl) ?_
  refine lv_iadd hx hb dX7_event_59 ?_
  refine s_eqi (y := nI (133 + 3 * ix + k)) (nI_add _ _) ?_
  refine s_ialN C hK X 1 (133 + 3 * ix + k) rfl rfl (by omega) (by decide) dX7_event_60 ?_
  have e_0_0 : (f_X7_event_ok_o g) = (f_X7_refused_o g 0) := by first | (rw [f_X7_event_ok_o]; done) | (rw [f_X7_event_ok_o]; rfl) | (simp only [f_X7_event_ok_o]; done)
  exact hret _ _ _ _ _ _ dX7_event_61 X (by rw [e_0_0]) (by first | (rw [f_X7_event_ok]; done) | (rw [f_X7_event_ok]; rfl) | (simp only [f_X7_event_ok]; done))
def f_X7_event_no1_o (g : F1) : F1 := (f_X7_refused_o g 1)
set_option maxHeartbeats 4000000 in
set_option maxRecDepth 100000 in
theorem c_X7_event_no1 (l : Launch) (D : va_G) (ty : Nat → ClassId) (o : Nat) (a : Nat) (b : Nat) (c_ : Nat) (g : F1) (hs : Int64) (n : F1) (V : Int32) (U : Int32) (hv : f_X7_within V 0 (n 132 - 1) = 0) : MC l D ty yX7_event cX7_event 3 (some .int) 1 [.ref o, .int V, .int U] [(o, moE g hs a b c_), (a, arE ty 253 n)] (some (.int 0)) [(o, moE (f_X7_event_no1_o g) hs a b c_), (a, arE ty 253 n)] := by
  refine mc_i (by decide +kernel) (Nat.le_of_ble_eq_true rfl) ?_
  intro p e s m args below meth c A Q ls C hK hA X hret hl
  have hx := C.1
  have hb := C.2.1
  have hl : lv_has ls 3 [(0, .ref o), (1, .int V), (2, .int U)] := hl
  have X : Wd D A s.heap [(o, moE g hs a b c_), (a, arE ty 253 n)] s.heap [] := X
  refine lv_aload_n hx hb dX7_event_0 rfl (lv_at hl 0 rfl) ?_
  refine lv_iload_n hx hb dX7_event_1 rfl (lv_at hl 1 rfl) ?_
  refine lv_iconst (v := 0) hx hb dX7_event_2 (by decide) ?_
  refine lv_aload_n hx hb dX7_event_3 rfl (lv_at hl 0 rfl) ?_
  refine get_mo_0 C hK X 0 rfl fl_X7_7 dX7_event_4 ?_
  refine lv_sipush (v := 132) hx hb dX7_event_7 (by decide) ?_
  refine s_ialN C hK X 1 132 rfl rfl (by decide) (by decide) dX7_event_10 ?_
  refine lv_iconst (v := 1) hx hb dX7_event_11 (by decide) ?_
  refine lv_isub hx hb dX7_event_12 ?_
  refine s_cS0i C hK hA X (c_X7_within l D ty V 0 ((n 132) - 1)) [] pk_n rfl sl_X7_within wm_X7_37 ⟨Nat.le_of_ble_eq_true rfl, Nat.le_of_ble_eq_true rfl⟩ ⟨Nat.zero_le _, Nat.zero_le _⟩ hl.1 rfl (Nat.le_of_ble_eq_true rfl) dX7_event_13 (fun H locs X => ?_)
  refine s_eqi (y := 0) (hv) ?_
  refine lv_if_ne (tgt := 23) hx hb dX7_event_16 (by decide) (fun c0 => absurd (by decide) c0) (fun _ => ?_)
  refine lv_iconst (v := 1) hx hb dX7_event_19 (by decide) ?_
  refine lv_goto (tgt := 37) hx hb dX7_event_20 (by decide) ?_
  refine s_cVi (ws' := [(o, moE (f_X7_refused_o g 1) hs a b c_), (a, arE ty 253 n)]) C hK hA X (c_X7_refused l D ty o a b c_ g hs 1) [0] (pk_c rfl pk_n) rfl (pk_c rfl pk_n) (em_t (em_f em_n)) rfl ml_X7_refused wm_X7_29 (q0 := 0) rfl rfl rfl ⟨Nat.le_of_ble_eq_true rfl, Nat.le_of_ble_eq_true rfl⟩ ⟨Nat.zero_le _, Nat.zero_le _⟩ hl.1 rfl (Nat.le_of_ble_eq_true rfl) dX7_event_37 (fun H locs X => ?_)
  refine s_eqi (y := 1) (by decide) ?_
  refine lv_if_eq (tgt := 47) hx hb dX7_event_40 (by decide) (fun c0 => absurd c0 (by decide)) (fun _ => ?_)
  refine lv_iconst (v := 0) hx hb dX7_event_43 (by decide) ?_
  refine lv_goto (tgt := 61) hx hb dX7_event_44 (by decide) ?_
  have e_0_0 : (f_X7_event_no1_o g) = (f_X7_refused_o g 1) := by first | (rw [f_X7_event_no1_o]; done) | (rw [f_X7_event_no1_o]; rfl) | (simp only [f_X7_event_no1_o]; done)
  exact hret _ _ _ _ _ _ dX7_event_61 X (by rw [e_0_0]) rfl
def f_X7_event_no2_o (g : F1) : F1 := (f_X7_refused_o g 2)
set_option maxHeartbeats 4000000 in
set_option maxRecDepth 100000 in
theorem c_X7_event_no2 (l : Launch) (D : va_G) (ty : Nat → ClassId) (o : Nat) (a : Nat) (b : Nat) (c_ : Nat) (g : F1) (hs : Int64) (n : F1) (V : Int32) (U : Int32) (hv : f_X7_within V 0 (n 132 - 1) = 1) (hw : f_X7_within U 0 2 = 0) : MC l D ty yX7_event cX7_event 3 (some .int) 1 [.ref o, .int V, .int U] [(o, moE g hs a b c_), (a, arE ty 253 n)] (some (.int 0)) [(o, moE (f_X7_event_no2_o g) hs a b c_), (a, arE ty 253 n)] := by
  refine mc_i (by decide +kernel) (Nat.le_of_ble_eq_true rfl) ?_
  intro p e s m args below meth c A Q ls C hK hA X hret hl
  have hx := C.1
  have hb := C.2.1
  have hl : lv_has ls 3 [(0, .ref o), (1, .int V), (2, .int U)] := hl
  have X : Wd D A s.heap [(o, moE g hs a b c_), (a, arE ty 253 n)] s.heap [] := X
  refine lv_aload_n hx hb dX7_event_0 rfl (lv_at hl 0 rfl) ?_
  refine lv_iload_n hx hb dX7_event_1 rfl (lv_at hl 1 rfl) ?_
  refine lv_iconst (v := 0) hx hb dX7_event_2 (by decide) ?_
  refine lv_aload_n hx hb dX7_event_3 rfl (lv_at hl 0 rfl) ?_
  refine get_mo_0 C hK X 0 rfl fl_X7_7 dX7_event_4 ?_
  refine lv_sipush (v := 132) hx hb dX7_event_7 (by decide) ?_
  refine s_ialN C hK X 1 132 rfl rfl (by decide) (by decide) dX7_event_10 ?_
  refine lv_iconst (v := 1) hx hb dX7_event_11 (by decide) ?_
  refine lv_isub hx hb dX7_event_12 ?_
  refine s_cS0i C hK hA X (c_X7_within l D ty V 0 ((n 132) - 1)) [] pk_n rfl sl_X7_within wm_X7_37 ⟨Nat.le_of_ble_eq_true rfl, Nat.le_of_ble_eq_true rfl⟩ ⟨Nat.zero_le _, Nat.zero_le _⟩ hl.1 rfl (Nat.le_of_ble_eq_true rfl) dX7_event_13 (fun H locs X => ?_)
  refine s_eqi (y := 1) (hv) ?_
  refine lv_if_ne (tgt := 23) hx hb dX7_event_16 (by decide) (fun _ => ?_) (fun c0 => absurd c0 (by decide))
  refine lv_iload_n hx hb dX7_event_23 rfl (lv_at hl 2 rfl) ?_
  refine lv_iconst (v := 0) hx hb dX7_event_24 (by decide) ?_
  refine lv_iconst (v := 2) hx hb dX7_event_25 (by decide) ?_
  refine s_cS0i C hK hA X (c_X7_within l D ty U 0 2) [] pk_n rfl sl_X7_within wm_X7_37 ⟨Nat.le_of_ble_eq_true rfl, Nat.le_of_ble_eq_true rfl⟩ ⟨Nat.zero_le _, Nat.zero_le _⟩ hl.1 rfl (Nat.le_of_ble_eq_true rfl) dX7_event_26 (fun H locs X => ?_)
  refine s_eqi (y := 0) (hw) ?_
  refine lv_if_eq (tgt := 36) hx hb dX7_event_29 (by decide) (fun _ => ?_) (fun c0 => absurd (by decide) c0)
  refine lv_iconst (v := 2) hx hb dX7_event_36 (by decide) ?_
  refine s_cVi (ws' := [(o, moE (f_X7_refused_o g 2) hs a b c_), (a, arE ty 253 n)]) C hK hA X (c_X7_refused l D ty o a b c_ g hs 2) [0] (pk_c rfl pk_n) rfl (pk_c rfl pk_n) (em_t (em_f em_n)) rfl ml_X7_refused wm_X7_29 (q0 := 0) rfl rfl rfl ⟨Nat.le_of_ble_eq_true rfl, Nat.le_of_ble_eq_true rfl⟩ ⟨Nat.zero_le _, Nat.zero_le _⟩ hl.1 rfl (Nat.le_of_ble_eq_true rfl) dX7_event_37 (fun H locs X => ?_)
  refine s_eqi (y := 1) (by decide) ?_
  refine lv_if_eq (tgt := 47) hx hb dX7_event_40 (by decide) (fun c0 => absurd c0 (by decide)) (fun _ => ?_)
  refine lv_iconst (v := 0) hx hb dX7_event_43 (by decide) ?_
  refine lv_goto (tgt := 61) hx hb dX7_event_44 (by decide) ?_
  have e_0_0 : (f_X7_event_no2_o g) = (f_X7_refused_o g 2) := by first | (rw [f_X7_event_no2_o]; done) | (rw [f_X7_event_no2_o]; rfl) | (simp only [f_X7_event_no2_o]; done)
  exact hret _ _ _ _ _ _ dX7_event_61 X (by rw [e_0_0]) rfl
