def f_X1_urgency (ph : Int32) : Int32 := (if ph = 1 then 1 else (if ph = 2 then 0 else (if ph = 3 then 2 else (if ph = 4 then 3 else 4))))
set_option maxHeartbeats 4000000 in
set_option maxRecDepth 100000 in
theorem c_X1_urgency (l : Launch) (D : va_G) (ty : Nat → ClassId) (ph : Int32) : MC l D ty yX1_urgency cX1_urgency 1 (some .int) 0 [.int ph] [] (some (.int (f_X1_urgency ph))) [] := by
  refine mc_i (by decide +kernel) (Nat.le_of_ble_eq_true rfl) ?_
  intro p e s m args below meth c A Q ls C hK hA X hret hl
  have hx := C.1
  have hb := C.2.1
  have hl : lv_has ls 1 [(0, .int ph)] := hl
  have X : Wd D A s.heap [] s.heap [] := X
  refine lv_iload_n hx hb dX1_urgency_0 rfl (lv_at hl 0 rfl) ?_
  by_cases c0_0 : ph = 1
  · refine lv_tableIn (off := 33) (tgt := 34) hx hb dX1_urgency_1 (by rw [c0_0]; decide) (by rw [c0_0]; decide) (by rw [c0_0]; rfl) (by decide) ?_
    refine lv_iconst (v := 1) hx hb dX1_urgency_34 (by decide) ?_
    exact hret _ _ _ _ _ _ dX1_urgency_35 X rfl (by first | (rw [f_X1_urgency, if_pos c0_0]; done) | (rw [f_X1_urgency, if_pos c0_0]; rfl) | (simp only [f_X1_urgency, if_pos c0_0]; done))
  · by_cases c1_1 : ph = 2
    · refine lv_tableIn (off := 31) (tgt := 32) hx hb dX1_urgency_1 (by rw [c1_1]; decide) (by rw [c1_1]; decide) (by rw [c1_1]; rfl) (by decide) ?_
      refine lv_iconst (v := 0) hx hb dX1_urgency_32 (by decide) ?_
      exact hret _ _ _ _ _ _ dX1_urgency_33 X rfl (by first | (rw [f_X1_urgency, if_neg c0_0, if_pos c1_1]; done) | (rw [f_X1_urgency, if_neg c0_0, if_pos c1_1]; rfl) | (simp only [f_X1_urgency, if_neg c0_0, if_pos c1_1]; done))
    · by_cases c2_2 : ph = 3
      · refine lv_tableIn (off := 35) (tgt := 36) hx hb dX1_urgency_1 (by rw [c2_2]; decide) (by rw [c2_2]; decide) (by rw [c2_2]; rfl) (by decide) ?_
        refine lv_iconst (v := 2) hx hb dX1_urgency_36 (by decide) ?_
        exact hret _ _ _ _ _ _ dX1_urgency_37 X rfl (by first | (rw [f_X1_urgency, if_neg c0_0, if_neg c1_1, if_pos c2_2]; done) | (rw [f_X1_urgency, if_neg c0_0, if_neg c1_1, if_pos c2_2]; rfl) | (simp only [f_X1_urgency, if_neg c0_0, if_neg c1_1, if_pos c2_2]; done))
      · by_cases c3_3 : ph = 4
        · refine lv_tableIn (off := 37) (tgt := 38) hx hb dX1_urgency_1 (by rw [c3_3]; decide) (by rw [c3_3]; decide) (by rw [c3_3]; rfl) (by decide) ?_
          refine lv_iconst (v := 3) hx hb dX1_urgency_38 (by decide) ?_
          exact hret _ _ _ _ _ _ dX1_urgency_39 X rfl (by first | (rw [f_X1_urgency, if_neg c0_0, if_neg c1_1, if_neg c2_2, if_pos c3_3]; done) | (rw [f_X1_urgency, if_neg c0_0, if_neg c1_1, if_neg c2_2, if_pos c3_3]; rfl) | (simp only [f_X1_urgency, if_neg c0_0, if_neg c1_1, if_neg c2_2, if_pos c3_3]; done))
        · refine lv_tableOut (tgt := 40) hx hb dX1_urgency_1 (sw_out4 c0_0 c1_1 c2_2 c3_3) (by decide) ?_
          refine lv_iconst (v := 4) hx hb dX1_urgency_40 (by decide) ?_
          exact hret _ _ _ _ _ _ dX1_urgency_41 X rfl (by first | (rw [f_X1_urgency, if_neg c0_0, if_neg c1_1, if_neg c2_2, if_neg c3_3]; done) | (rw [f_X1_urgency, if_neg c0_0, if_neg c1_1, if_neg c2_2, if_neg c3_3]; rfl) | (simp only [f_X1_urgency, if_neg c0_0, if_neg c1_1, if_neg c2_2, if_neg c3_3]; done))
def v_X1_phaseAfter_1 (w : F1) : Int32 := (if (w 12) ≤ 200 then 0 else (if (-30) ≤ (w 11) then 0 else 1))
def f_X1_phaseAfter (w : F1) (dm : Int32) : Int32 := (if (w 2) = 1 then (if (v_X1_phaseAfter_1 w) = 0 then (if 0 ≤ (w 11) then 4 else (if 60 < (w 12) then 1 else 4)) else 2) else (if (w 2) = 2 then (if 10 < (w 11) then 3 else (if 60 < (w 12) then 2 else 3)) else (if (w 2) = 3 then (if (w 12) ≤ 60 then 4 else (if 10 < (w 11) then (if (v_X1_phaseAfter_1 w) = 0 then 3 else 2) else (if 150 < (w 12) then (if (v_X1_phaseAfter_1 w) = 0 then 3 else 2) else 4))) else (if (w 2) = 4 then (if (v_X1_phaseAfter_1 w) = 0 then (if (w 1) < dm then 4 else 0) else 2) else (if (v_X1_phaseAfter_1 w) = 0 then (if (w 12) ≤ 100 then 0 else (if (-60) ≤ (w 11) then 0 else 1)) else 2)))))
set_option maxHeartbeats 4000000 in
set_option maxRecDepth 100000 in
theorem c_X1_phaseAfter (l : Launch) (D : va_G) (ty : Nat → ClassId) (h : Nat) (am : Nat) (w : F1) (dm : Int32) : MC l D ty yX1_phaseAfter cX1_phaseAfter 5 (some .int) 0 [.ref h, .int dm] [(h, whE w am)] (some (.int (f_X1_phaseAfter w dm))) [(h, whE w am)] := by
  refine mc_i (by decide +kernel) (Nat.le_of_ble_eq_true rfl) ?_
  intro p e s m args below meth c A Q ls C hK hA X hret hl
  have hx := C.1
  have hb := C.2.1
  have hl : lv_has ls 5 [(0, .ref h), (1, .int dm)] := hl
  have X : Wd D A s.heap [(h, whE w am)] s.heap [] := X
  refine lv_aload_n hx hb dX1_phaseAfter_0 rfl (lv_at hl 0 rfl) ?_
  refine get_wh_13 C hK X 0 rfl fl_X1_150 dX1_phaseAfter_1 ?_
  refine lv_istore_n (lv' := [(2, .int (w 12)), (0, .ref h), (1, .int dm)]) hx hb dX1_phaseAfter_4 rfl hl (by decide) rfl (fun ls hl => ?_)
  refine lv_aload_n hx hb dX1_phaseAfter_5 rfl (lv_at hl 1 rfl) ?_
  refine get_wh_12 C hK X 0 rfl fl_X1_153 dX1_phaseAfter_6 ?_
  refine lv_istore_n (lv' := [(3, .int (w 11)), (2, .int (w 12)), (0, .ref h), (1, .int dm)]) hx hb dX1_phaseAfter_9 rfl hl (by decide) rfl (fun ls hl => ?_)
  refine lv_iload_n hx hb dX1_phaseAfter_10 rfl (lv_at hl 1 rfl) ?_
  refine lv_sipush (v := 200) hx hb dX1_phaseAfter_11 (by decide) ?_
  have J28_2 : ∀ (x1 : Int32) (ls : Array Slot) (H : Heap) (locs : List Loc), x1 = (v_X1_phaseAfter_1 w) → lv_has ls 5 [(3, .int (w 11)), (2, .int (w 12)), (0, .ref h), (1, .int dm)] → Wd D A s.heap [(h, whE w am)] H locs → W p l e (rmD 0) s m args below meth c H locs 0 0 Q (F0 m 28 ls [.int x1]) := by
    intro x1 ls H locs ex1 hl X
    subst ex1
    refine lv_istore (lv' := [(4, .int (v_X1_phaseAfter_1 w)), (3, .int (w 11)), (2, .int (w 12)), (0, .ref h), (1, .int dm)]) hx hb dX1_phaseAfter_28 hl (by decide) rfl (fun ls hl => ?_)
    refine lv_aload_n hx hb dX1_phaseAfter_30 rfl (lv_at hl 3 rfl) ?_
    refine get_wh_2 C hK X 0 rfl fl_X1_156 dX1_phaseAfter_31 ?_
    by_cases c0_0 : (w 2) = 1
    · refine lv_tableIn (off := 30) (tgt := 64) hx hb dX1_phaseAfter_34 (by rw [c0_0]; decide) (by rw [c0_0]; decide) (by rw [c0_0]; rfl) (by decide) ?_
      refine lv_iload hx hb dX1_phaseAfter_64 (lv_at hl 0 rfl) ?_
      refine lv_if_eq (tgt := 73) hx hb dX1_phaseAfter_66 (by decide) (fun c1_1 => ?_) (fun c1_1 => ?_)
      · refine lv_iload_n hx hb dX1_phaseAfter_73 rfl (lv_at hl 1 rfl) ?_
        refine lv_if_ge (tgt := 83) hx hb dX1_phaseAfter_74 (by decide) (fun c2_2 => ?_) (fun c2_2 => ?_)
        · refine lv_iconst (v := 4) hx hb dX1_phaseAfter_83 (by decide) ?_
          refine lv_goto (tgt := 88) hx hb dX1_phaseAfter_84 (by decide) ?_
          exact hret _ _ _ _ _ _ dX1_phaseAfter_88 X rfl (by first | (rw [f_X1_phaseAfter, if_pos c0_0, if_pos c1_1, if_pos c2_2]; done) | (rw [f_X1_phaseAfter, if_pos c0_0, if_pos c1_1, if_pos c2_2]; rfl) | (simp only [f_X1_phaseAfter, if_pos c0_0, if_pos c1_1, if_pos c2_2]; done))
        · refine lv_iload_n hx hb dX1_phaseAfter_77 rfl (lv_at hl 2 rfl) ?_
          refine lv_bipush (v := 60) hx hb dX1_phaseAfter_78 (by decide) ?_
          refine lv_icmp_gt (tgt := 87) hx hb dX1_phaseAfter_80 (by decide) (fun c3_3 => ?_) (fun c3_3 => ?_)
          · refine lv_iconst (v := 1) hx hb dX1_phaseAfter_87 (by decide) ?_
            exact hret _ _ _ _ _ _ dX1_phaseAfter_88 X rfl (by first | (rw [f_X1_phaseAfter, if_pos c0_0, if_pos c1_1, if_neg c2_2, if_pos c3_3]; done) | (rw [f_X1_phaseAfter, if_pos c0_0, if_pos c1_1, if_neg c2_2, if_pos c3_3]; rfl) | (simp only [f_X1_phaseAfter, if_pos c0_0, if_pos c1_1, if_neg c2_2, if_pos c3_3]; done))
          · refine lv_iconst (v := 4) hx hb dX1_phaseAfter_83 (by decide) ?_
            refine lv_goto (tgt := 88) hx hb dX1_phaseAfter_84 (by decide) ?_
            exact hret _ _ _ _ _ _ dX1_phaseAfter_88 X rfl (by first | (rw [f_X1_phaseAfter, if_pos c0_0, if_pos c1_1, if_neg c2_2, if_neg c3_3]; done) | (rw [f_X1_phaseAfter, if_pos c0_0, if_pos c1_1, if_neg c2_2, if_neg c3_3]; rfl) | (simp only [f_X1_phaseAfter, if_pos c0_0, if_pos c1_1, if_neg c2_2, if_neg c3_3]; done))
      · refine lv_iconst (v := 2) hx hb dX1_phaseAfter_69 (by decide) ?_
        refine lv_goto (tgt := 88) hx hb dX1_phaseAfter_70 (by decide) ?_
        exact hret _ _ _ _ _ _ dX1_phaseAfter_88 X rfl (by first | (rw [f_X1_phaseAfter, if_pos c0_0, if_neg c1_1]; done) | (rw [f_X1_phaseAfter, if_pos c0_0, if_neg c1_1]; rfl) | (simp only [f_X1_phaseAfter, if_pos c0_0, if_neg c1_1]; done))
    · by_cases c1_1 : (w 2) = 2
      · refine lv_tableIn (off := 55) (tgt := 89) hx hb dX1_phaseAfter_34 (by rw [c1_1]; decide) (by rw [c1_1]; decide) (by rw [c1_1]; rfl) (by decide) ?_
        refine lv_iload_n hx hb dX1_phaseAfter_89 rfl (lv_at hl 1 rfl) ?_
        refine lv_bipush (v := 10) hx hb dX1_phaseAfter_90 (by decide) ?_
        refine lv_icmp_gt (tgt := 101) hx hb dX1_phaseAfter_92 (by decide) (fun c2_2 => ?_) (fun c2_2 => ?_)
        · refine lv_iconst (v := 3) hx hb dX1_phaseAfter_101 (by decide) ?_
          refine lv_goto (tgt := 106) hx hb dX1_phaseAfter_102 (by decide) ?_
          exact hret _ _ _ _ _ _ dX1_phaseAfter_106 X rfl (by first | (rw [f_X1_phaseAfter, if_neg c0_0, if_pos c1_1, if_pos c2_2]; done) | (rw [f_X1_phaseAfter, if_neg c0_0, if_pos c1_1, if_pos c2_2]; rfl) | (simp only [f_X1_phaseAfter, if_neg c0_0, if_pos c1_1, if_pos c2_2]; done))
        · refine lv_iload_n hx hb dX1_phaseAfter_95 rfl (lv_at hl 2 rfl) ?_
          refine lv_bipush (v := 60) hx hb dX1_phaseAfter_96 (by decide) ?_
          refine lv_icmp_gt (tgt := 105) hx hb dX1_phaseAfter_98 (by decide) (fun c3_3 => ?_) (fun c3_3 => ?_)
          · refine lv_iconst (v := 2) hx hb dX1_phaseAfter_105 (by decide) ?_
            exact hret _ _ _ _ _ _ dX1_phaseAfter_106 X rfl (by first | (rw [f_X1_phaseAfter, if_neg c0_0, if_pos c1_1, if_neg c2_2, if_pos c3_3]; done) | (rw [f_X1_phaseAfter, if_neg c0_0, if_pos c1_1, if_neg c2_2, if_pos c3_3]; rfl) | (simp only [f_X1_phaseAfter, if_neg c0_0, if_pos c1_1, if_neg c2_2, if_pos c3_3]; done))
          · refine lv_iconst (v := 3) hx hb dX1_phaseAfter_101 (by decide) ?_
            refine lv_goto (tgt := 106) hx hb dX1_phaseAfter_102 (by decide) ?_
            exact hret _ _ _ _ _ _ dX1_phaseAfter_106 X rfl (by first | (rw [f_X1_phaseAfter, if_neg c0_0, if_pos c1_1, if_neg c2_2, if_neg c3_3]; done) | (rw [f_X1_phaseAfter, if_neg c0_0, if_pos c1_1, if_neg c2_2, if_neg c3_3]; rfl) | (simp only [f_X1_phaseAfter, if_neg c0_0, if_pos c1_1, if_neg c2_2, if_neg c3_3]; done))
      · by_cases c2_2 : (w 2) = 3
        · refine lv_tableIn (off := 73) (tgt := 107) hx hb dX1_phaseAfter_34 (by rw [c2_2]; decide) (by rw [c2_2]; decide) (by rw [c2_2]; rfl) (by decide) ?_
          refine lv_iload_n hx hb dX1_phaseAfter_107 rfl (lv_at hl 2 rfl) ?_
          refine lv_bipush (v := 60) hx hb dX1_phaseAfter_108 (by decide) ?_
          refine lv_icmp_le (tgt := 126) hx hb dX1_phaseAfter_110 (by decide) (fun c3_3 => ?_) (fun c3_3 => ?_)
          · refine lv_iconst (v := 4) hx hb dX1_phaseAfter_126 (by decide) ?_
            refine lv_goto (tgt := 140) hx hb dX1_phaseAfter_127 (by decide) ?_
            exact hret _ _ _ _ _ _ dX1_phaseAfter_140 X rfl (by first | (rw [f_X1_phaseAfter, if_neg c0_0, if_neg c1_1, if_pos c2_2, if_pos c3_3]; done) | (rw [f_X1_phaseAfter, if_neg c0_0, if_neg c1_1, if_pos c2_2, if_pos c3_3]; rfl) | (simp only [f_X1_phaseAfter, if_neg c0_0, if_neg c1_1, if_pos c2_2, if_pos c3_3]; done))
          · refine lv_iload_n hx hb dX1_phaseAfter_113 rfl (lv_at hl 1 rfl) ?_
            refine lv_bipush (v := 10) hx hb dX1_phaseAfter_114 (by decide) ?_
            refine lv_icmp_gt (tgt := 130) hx hb dX1_phaseAfter_116 (by decide) (fun c4_4 => ?_) (fun c4_4 => ?_)
            · refine lv_iload hx hb dX1_phaseAfter_130 (lv_at hl 0 rfl) ?_
              refine lv_if_eq (tgt := 139) hx hb dX1_phaseAfter_132 (by decide) (fun c5_5 => ?_) (fun c5_5 => ?_)
              · refine lv_iconst (v := 3) hx hb dX1_phaseAfter_139 (by decide) ?_
                exact hret _ _ _ _ _ _ dX1_phaseAfter_140 X rfl (by first | (rw [f_X1_phaseAfter, if_neg c0_0, if_neg c1_1, if_pos c2_2, if_neg c3_3, if_pos c4_4, if_pos c5_5]; done) | (rw [f_X1_phaseAfter, if_neg c0_0, if_neg c1_1, if_pos c2_2, if_neg c3_3, if_pos c4_4, if_pos c5_5]; rfl) | (simp only [f_X1_phaseAfter, if_neg c0_0, if_neg c1_1, if_pos c2_2, if_neg c3_3, if_pos c4_4, if_pos c5_5]; done))
              · refine lv_iconst (v := 2) hx hb dX1_phaseAfter_135 (by decide) ?_
                refine lv_goto (tgt := 140) hx hb dX1_phaseAfter_136 (by decide) ?_
                exact hret _ _ _ _ _ _ dX1_phaseAfter_140 X rfl (by first | (rw [f_X1_phaseAfter, if_neg c0_0, if_neg c1_1, if_pos c2_2, if_neg c3_3, if_pos c4_4, if_neg c5_5]; done) | (rw [f_X1_phaseAfter, if_neg c0_0, if_neg c1_1, if_pos c2_2, if_neg c3_3, if_pos c4_4, if_neg c5_5]; rfl) | (simp only [f_X1_phaseAfter, if_neg c0_0, if_neg c1_1, if_pos c2_2, if_neg c3_3, if_pos c4_4, if_neg c5_5]; done))
            · refine lv_iload_n hx hb dX1_phaseAfter_119 rfl (lv_at hl 2 rfl) ?_
              refine lv_sipush (v := 150) hx hb dX1_phaseAfter_120 (by decide) ?_
              refine lv_icmp_gt (tgt := 130) hx hb dX1_phaseAfter_123 (by decide) (fun c5_5 => ?_) (fun c5_5 => ?_)
              · refine lv_iload hx hb dX1_phaseAfter_130 (lv_at hl 0 rfl) ?_
                refine lv_if_eq (tgt := 139) hx hb dX1_phaseAfter_132 (by decide) (fun c6_6 => ?_) (fun c6_6 => ?_)
                · refine lv_iconst (v := 3) hx hb dX1_phaseAfter_139 (by decide) ?_
                  exact hret _ _ _ _ _ _ dX1_phaseAfter_140 X rfl (by first | (rw [f_X1_phaseAfter, if_neg c0_0, if_neg c1_1, if_pos c2_2, if_neg c3_3, if_neg c4_4, if_pos c5_5, if_pos c6_6]; done) | (rw [f_X1_phaseAfter, if_neg c0_0, if_neg c1_1, if_pos c2_2, if_neg c3_3, if_neg c4_4, if_pos c5_5, if_pos c6_6]; rfl) | (simp only [f_X1_phaseAfter, if_neg c0_0, if_neg c1_1, if_pos c2_2, if_neg c3_3, if_neg c4_4, if_pos c5_5, if_pos c6_6]; done))
                · refine lv_iconst (v := 2) hx hb dX1_phaseAfter_135 (by decide) ?_
                  refine lv_goto (tgt := 140) hx hb dX1_phaseAfter_136 (by decide) ?_
                  exact hret _ _ _ _ _ _ dX1_phaseAfter_140 X rfl (by first | (rw [f_X1_phaseAfter, if_neg c0_0, if_neg c1_1, if_pos c2_2, if_neg c3_3, if_neg c4_4, if_pos c5_5, if_neg c6_6]; done) | (rw [f_X1_phaseAfter, if_neg c0_0, if_neg c1_1, if_pos c2_2, if_neg c3_3, if_neg c4_4, if_pos c5_5, if_neg c6_6]; rfl) | (simp only [f_X1_phaseAfter, if_neg c0_0, if_neg c1_1, if_pos c2_2, if_neg c3_3, if_neg c4_4, if_pos c5_5, if_neg c6_6]; done))
              · refine lv_iconst (v := 4) hx hb dX1_phaseAfter_126 (by decide) ?_
                refine lv_goto (tgt := 140) hx hb dX1_phaseAfter_127 (by decide) ?_
                exact hret _ _ _ _ _ _ dX1_phaseAfter_140 X rfl (by first | (rw [f_X1_phaseAfter, if_neg c0_0, if_neg c1_1, if_pos c2_2, if_neg c3_3, if_neg c4_4, if_neg c5_5]; done) | (rw [f_X1_phaseAfter, if_neg c0_0, if_neg c1_1, if_pos c2_2, if_neg c3_3, if_neg c4_4, if_neg c5_5]; rfl) | (simp only [f_X1_phaseAfter, if_neg c0_0, if_neg c1_1, if_pos c2_2, if_neg c3_3, if_neg c4_4, if_neg c5_5]; done))
        · by_cases c3_3 : (w 2) = 4
          · refine lv_tableIn (off := 107) (tgt := 141) hx hb dX1_phaseAfter_34 (by rw [c3_3]; decide) (by rw [c3_3]; decide) (by rw [c3_3]; rfl) (by decide) ?_
            refine lv_iload hx hb dX1_phaseAfter_141 (lv_at hl 0 rfl) ?_
            refine lv_if_eq (tgt := 150) hx hb dX1_phaseAfter_143 (by decide) (fun c4_4 => ?_) (fun c4_4 => ?_)
            · refine lv_aload_n hx hb dX1_phaseAfter_150 rfl (lv_at hl 3 rfl) ?_
              refine get_wh_1 C hK X 0 rfl fl_X1_159 dX1_phaseAfter_151 ?_
              refine lv_iload_n hx hb dX1_phaseAfter_154 rfl (lv_at hl 4 rfl) ?_
              refine lv_icmp_lt (tgt := 162) hx hb dX1_phaseAfter_155 (by decide) (fun c5_5 => ?_) (fun c5_5 => ?_)
              · refine lv_iconst (v := 4) hx hb dX1_phaseAfter_162 (by decide) ?_
                exact hret _ _ _ _ _ _ dX1_phaseAfter_163 X rfl (by first | (rw [f_X1_phaseAfter, if_neg c0_0, if_neg c1_1, if_neg c2_2, if_pos c3_3, if_pos c4_4, if_pos c5_5]; done) | (rw [f_X1_phaseAfter, if_neg c0_0, if_neg c1_1, if_neg c2_2, if_pos c3_3, if_pos c4_4, if_pos c5_5]; rfl) | (simp only [f_X1_phaseAfter, if_neg c0_0, if_neg c1_1, if_neg c2_2, if_pos c3_3, if_pos c4_4, if_pos c5_5]; done))
              · refine lv_iconst (v := 0) hx hb dX1_phaseAfter_158 (by decide) ?_
                refine lv_goto (tgt := 163) hx hb dX1_phaseAfter_159 (by decide) ?_
                exact hret _ _ _ _ _ _ dX1_phaseAfter_163 X rfl (by first | (rw [f_X1_phaseAfter, if_neg c0_0, if_neg c1_1, if_neg c2_2, if_pos c3_3, if_pos c4_4, if_neg c5_5]; done) | (rw [f_X1_phaseAfter, if_neg c0_0, if_neg c1_1, if_neg c2_2, if_pos c3_3, if_pos c4_4, if_neg c5_5]; rfl) | (simp only [f_X1_phaseAfter, if_neg c0_0, if_neg c1_1, if_neg c2_2, if_pos c3_3, if_pos c4_4, if_neg c5_5]; done))
            · refine lv_iconst (v := 2) hx hb dX1_phaseAfter_146 (by decide) ?_
              refine lv_goto (tgt := 163) hx hb dX1_phaseAfter_147 (by decide) ?_
              exact hret _ _ _ _ _ _ dX1_phaseAfter_163 X rfl (by first | (rw [f_X1_phaseAfter, if_neg c0_0, if_neg c1_1, if_neg c2_2, if_pos c3_3, if_neg c4_4]; done) | (rw [f_X1_phaseAfter, if_neg c0_0, if_neg c1_1, if_neg c2_2, if_pos c3_3, if_neg c4_4]; rfl) | (simp only [f_X1_phaseAfter, if_neg c0_0, if_neg c1_1, if_neg c2_2, if_pos c3_3, if_neg c4_4]; done))
          · refine lv_tableOut (tgt := 164) hx hb dX1_phaseAfter_34 (sw_out4 c0_0 c1_1 c2_2 c3_3) (by decide) ?_
            refine lv_iload hx hb dX1_phaseAfter_164 (lv_at hl 0 rfl) ?_
            refine lv_if_eq (tgt := 173) hx hb dX1_phaseAfter_166 (by decide) (fun c4_4 => ?_) (fun c4_4 => ?_)
            · refine lv_iload_n hx hb dX1_phaseAfter_173 rfl (lv_at hl 2 rfl) ?_
              refine lv_bipush (v := 100) hx hb dX1_phaseAfter_174 (by decide) ?_
              refine lv_icmp_le (tgt := 189) hx hb dX1_phaseAfter_176 (by decide) (fun c5_5 => ?_) (fun c5_5 => ?_)
              · refine lv_iconst (v := 0) hx hb dX1_phaseAfter_189 (by decide) ?_
                exact hret _ _ _ _ _ _ dX1_phaseAfter_190 X rfl (by first | (rw [f_X1_phaseAfter, if_neg c0_0, if_neg c1_1, if_neg c2_2, if_neg c3_3, if_pos c4_4, if_pos c5_5]; done) | (rw [f_X1_phaseAfter, if_neg c0_0, if_neg c1_1, if_neg c2_2, if_neg c3_3, if_pos c4_4, if_pos c5_5]; rfl) | (simp only [f_X1_phaseAfter, if_neg c0_0, if_neg c1_1, if_neg c2_2, if_neg c3_3, if_pos c4_4, if_pos c5_5]; done))
              · refine lv_iload_n hx hb dX1_phaseAfter_179 rfl (lv_at hl 1 rfl) ?_
                refine lv_bipush (v := (-60)) hx hb dX1_phaseAfter_180 (by decide) ?_
                refine lv_icmp_ge (tgt := 189) hx hb dX1_phaseAfter_182 (by decide) (fun c6_6 => ?_) (fun c6_6 => ?_)
                · refine lv_iconst (v := 0) hx hb dX1_phaseAfter_189 (by decide) ?_
                  exact hret _ _ _ _ _ _ dX1_phaseAfter_190 X rfl (by first | (rw [f_X1_phaseAfter, if_neg c0_0, if_neg c1_1, if_neg c2_2, if_neg c3_3, if_pos c4_4, if_neg c5_5, if_pos c6_6]; done) | (rw [f_X1_phaseAfter, if_neg c0_0, if_neg c1_1, if_neg c2_2, if_neg c3_3, if_pos c4_4, if_neg c5_5, if_pos c6_6]; rfl) | (simp only [f_X1_phaseAfter, if_neg c0_0, if_neg c1_1, if_neg c2_2, if_neg c3_3, if_pos c4_4, if_neg c5_5, if_pos c6_6]; done))
                · refine lv_iconst (v := 1) hx hb dX1_phaseAfter_185 (by decide) ?_
                  refine lv_goto (tgt := 190) hx hb dX1_phaseAfter_186 (by decide) ?_
                  exact hret _ _ _ _ _ _ dX1_phaseAfter_190 X rfl (by first | (rw [f_X1_phaseAfter, if_neg c0_0, if_neg c1_1, if_neg c2_2, if_neg c3_3, if_pos c4_4, if_neg c5_5, if_neg c6_6]; done) | (rw [f_X1_phaseAfter, if_neg c0_0, if_neg c1_1, if_neg c2_2, if_neg c3_3, if_pos c4_4, if_neg c5_5, if_neg c6_6]; rfl) | (simp only [f_X1_phaseAfter, if_neg c0_0, if_neg c1_1, if_neg c2_2, if_neg c3_3, if_pos c4_4, if_neg c5_5, if_neg c6_6]; done))
            · refine lv_iconst (v := 2) hx hb dX1_phaseAfter_169 (by decide) ?_
              refine lv_goto (tgt := 190) hx hb dX1_phaseAfter_170 (by decide) ?_
              exact hret _ _ _ _ _ _ dX1_phaseAfter_190 X rfl (by first | (rw [f_X1_phaseAfter, if_neg c0_0, if_neg c1_1, if_neg c2_2, if_neg c3_3, if_neg c4_4]; done) | (rw [f_X1_phaseAfter, if_neg c0_0, if_neg c1_1, if_neg c2_2, if_neg c3_3, if_neg c4_4]; rfl) | (simp only [f_X1_phaseAfter, if_neg c0_0, if_neg c1_1, if_neg c2_2, if_neg c3_3, if_neg c4_4]; done))
  refine lv_icmp_le (tgt := 27) hx hb dX1_phaseAfter_14 (by decide) (fun c0_0 => ?_) (fun c0_0 => ?_)
  · refine lv_iconst (v := 0) hx hb dX1_phaseAfter_27 (by decide) ?_
    exact J28_2 0 _ _ _ (by first | (rw [v_X1_phaseAfter_1, if_pos c0_0]; done) | (rw [v_X1_phaseAfter_1, if_pos c0_0]; rfl) | (simp only [v_X1_phaseAfter_1, if_pos c0_0]; done)) (lv_sub hl [0, 1, 2, 3] rfl) X
  · refine lv_iload_n hx hb dX1_phaseAfter_17 rfl (lv_at hl 0 rfl) ?_
    refine lv_bipush (v := (-30)) hx hb dX1_phaseAfter_18 (by decide) ?_
    refine lv_icmp_ge (tgt := 27) hx hb dX1_phaseAfter_20 (by decide) (fun c1_1 => ?_) (fun c1_1 => ?_)
    · refine lv_iconst (v := 0) hx hb dX1_phaseAfter_27 (by decide) ?_
      exact J28_2 0 _ _ _ (by first | (rw [v_X1_phaseAfter_1, if_neg c0_0, if_pos c1_1]; done) | (rw [v_X1_phaseAfter_1, if_neg c0_0, if_pos c1_1]; rfl) | (simp only [v_X1_phaseAfter_1, if_neg c0_0, if_pos c1_1]; done)) (lv_sub hl [0, 1, 2, 3] rfl) X
    · refine lv_iconst (v := 1) hx hb dX1_phaseAfter_23 (by decide) ?_
      refine lv_goto (tgt := 28) hx hb dX1_phaseAfter_24 (by decide) ?_
      exact J28_2 1 _ _ _ (by first | (rw [v_X1_phaseAfter_1, if_neg c0_0, if_neg c1_1]; done) | (rw [v_X1_phaseAfter_1, if_neg c0_0, if_neg c1_1]; rfl) | (simp only [v_X1_phaseAfter_1, if_neg c0_0, if_neg c1_1]; done)) (lv_sub hl [0, 1, 2, 3] rfl) X
def v_X1_excludedWheels_1 (w0 : F1) : Int32 := (if (w0 7) = 0 then 0 else 1)
def v_X1_excludedWheels_3 (w0 : F1) (w1 : F1) : Int32 := (if (w1 7) = 0 then (v_X1_excludedWheels_1 w0) else ((v_X1_excludedWheels_1 w0) + 1))
def v_X1_excludedWheels_5 (w0 : F1) (w1 : F1) (w2 : F1) : Int32 := (if (w2 7) = 0 then (v_X1_excludedWheels_3 w0 w1) else ((v_X1_excludedWheels_3 w0 w1) + 1))
def v_X1_excludedWheels_7 (w0 : F1) (w1 : F1) (w2 : F1) (w3 : F1) : Int32 := (if (w3 7) = 0 then (v_X1_excludedWheels_5 w0 w1 w2) else ((v_X1_excludedWheels_5 w0 w1 w2) + 1))
def f_X1_excludedWheels (w0 : F1) (w1 : F1) (w2 : F1) (w3 : F1) : Int32 := (v_X1_excludedWheels_7 w0 w1 w2 w3)
set_option maxHeartbeats 4000000 in
set_option maxRecDepth 100000 in
theorem c_X1_excludedWheels (l : Launch) (D : va_G) (ty : Nat → ClassId) (h : Nat) (aw : Nat) (al : Nat) (a0 : Nat) (a1 : Nat) (a2 : Nat) (a3 : Nat) (m0 : Nat) (m1 : Nat) (m2 : Nat) (m3 : Nat) (z : F1) (w0 : F1) (w1 : F1) (w2 : F1) (w3 : F1) : MC l D ty yX1_excludedWheels cX1_excludedWheels 3 (some .int) 0 [.ref h] [(h, ctE z aw al), (aw, waE ty a0 a1 a2 a3), (a0, whE w0 m0), (a1, whE w1 m1), (a2, whE w2 m2), (a3, whE w3 m3)] (some (.int (f_X1_excludedWheels w0 w1 w2 w3))) [(h, ctE z aw al), (aw, waE ty a0 a1 a2 a3), (a0, whE w0 m0), (a1, whE w1 m1), (a2, whE w2 m2), (a3, whE w3 m3)] := by
  refine mc_i (by decide +kernel) (Nat.le_of_ble_eq_true rfl) ?_
  intro p e s m args below meth c A Q ls C hK hA X hret hl
  have hx := C.1
  have hb := C.2.1
  have hl : lv_has ls 3 [(0, .ref h)] := hl
  have X : Wd D A s.heap [(h, ctE z aw al), (aw, waE ty a0 a1 a2 a3), (a0, whE w0 m0), (a1, whE w1 m1), (a2, whE w2 m2), (a3, whE w3 m3)] s.heap [] := X
  refine lv_iconst (v := 0) hx hb dX1_excludedWheels_0 (by decide) ?_
  refine lv_istore_n (lv' := [(1, .int 0), (0, .ref h)]) hx hb dX1_excludedWheels_1 rfl hl (by decide) rfl (fun ls hl => ?_)
  refine lv_iconst (v := 0) hx hb dX1_excludedWheels_2 (by decide) ?_
  refine lv_istore_n (lv' := [(2, .int 0), (1, .int 0), (0, .ref h)]) hx hb dX1_excludedWheels_3 rfl hl (by decide) rfl (fun ls hl => ?_)
  refine lv_iload_n hx hb dX1_excludedWheels_4 rfl (lv_at hl 0 rfl) ?_
  refine lv_iconst (v := 4) hx hb dX1_excludedWheels_5 (by decide) ?_
  refine lv_icmp_ge (tgt := 30) hx hb dX1_excludedWheels_6 (by decide) (fun c0 => absurd c0 (by decide)) (fun _ => ?_)
  refine lv_aload_n hx hb dX1_excludedWheels_9 rfl (lv_at hl 2 rfl) ?_
  refine get_ct_0 C hK X 0 rfl fl_X1_11 dX1_excludedWheels_10 ?_
  refine lv_iload_n hx hb dX1_excludedWheels_13 rfl (lv_at hl 0 rfl) ?_
  refine s_aald (t0 := 2) (b := a0) C hK X 1 rfl rfl (vp_in_nI (n := 0) (by decide) (by decide)) rfl dX1_excludedWheels_14 ?_
  refine get_wh_8 C hK X 2 rfl fl_X1_93 dX1_excludedWheels_15 ?_
  have J24_2 : ∀ (x1 : Int32) (ls : Array Slot) (H : Heap) (locs : List Loc), x1 = (v_X1_excludedWheels_1 w0) → lv_has ls 3 [(2, .int 0), (1, .int x1), (0, .ref h)] → Wd D A s.heap [(h, ctE z aw al), (aw, waE ty a0 a1 a2 a3), (a0, whE w0 m0), (a1, whE w1 m1), (a2, whE w2 m2), (a3, whE w3 m3)] H locs → W p l e (rmD 0) s m args below meth c H locs 0 0 Q (F0 m 24 ls []) := by
    intro x1 ls H locs ex1 hl X
    subst ex1
    refine lv_iinc (v := 1) (lv' := [(2, .int 1), (1, .int (v_X1_excludedWheels_1 w0)), (0, .ref h)]) hx hb dX1_excludedWheels_24 hl (k := 0) rfl (by decide) (by decide) rfl (fun ls hl => ?_)
    refine lv_goto (tgt := 4) hx hb dX1_excludedWheels_27 (by decide) ?_
    refine lv_iload_n hx hb dX1_excludedWheels_4 rfl (lv_at hl 0 rfl) ?_
    refine lv_iconst (v := 4) hx hb dX1_excludedWheels_5 (by decide) ?_
    refine lv_icmp_ge (tgt := 30) hx hb dX1_excludedWheels_6 (by decide) (fun c0 => absurd c0 (by decide)) (fun _ => ?_)
    refine lv_aload_n hx hb dX1_excludedWheels_9 rfl (lv_at hl 2 rfl) ?_
    refine get_ct_0 C hK X 0 rfl fl_X1_11 dX1_excludedWheels_10 ?_
    refine lv_iload_n hx hb dX1_excludedWheels_13 rfl (lv_at hl 0 rfl) ?_
    refine s_aald (t0 := 2) (b := a1) C hK X 1 rfl rfl (vp_in_nI (n := 1) (by decide) (by decide)) rfl dX1_excludedWheels_14 ?_
    refine get_wh_8 C hK X 3 rfl fl_X1_93 dX1_excludedWheels_15 ?_
    have J24_4 : ∀ (x3 : Int32) (ls : Array Slot) (H : Heap) (locs : List Loc), x3 = (v_X1_excludedWheels_3 w0 w1) → lv_has ls 3 [(2, .int 1), (1, .int x3), (0, .ref h)] → Wd D A s.heap [(h, ctE z aw al), (aw, waE ty a0 a1 a2 a3), (a0, whE w0 m0), (a1, whE w1 m1), (a2, whE w2 m2), (a3, whE w3 m3)] H locs → W p l e (rmD 0) s m args below meth c H locs 0 0 Q (F0 m 24 ls []) := by
      intro x3 ls H locs ex3 hl X
      subst ex3
      refine lv_iinc (v := 2) (lv' := [(2, .int 2), (1, .int (v_X1_excludedWheels_3 w0 w1)), (0, .ref h)]) hx hb dX1_excludedWheels_24 hl (k := 0) rfl (by decide) (by decide) rfl (fun ls hl => ?_)
      refine lv_goto (tgt := 4) hx hb dX1_excludedWheels_27 (by decide) ?_
      refine lv_iload_n hx hb dX1_excludedWheels_4 rfl (lv_at hl 0 rfl) ?_
      refine lv_iconst (v := 4) hx hb dX1_excludedWheels_5 (by decide) ?_
      refine lv_icmp_ge (tgt := 30) hx hb dX1_excludedWheels_6 (by decide) (fun c0 => absurd c0 (by decide)) (fun _ => ?_)
      refine lv_aload_n hx hb dX1_excludedWheels_9 rfl (lv_at hl 2 rfl) ?_
      refine get_ct_0 C hK X 0 rfl fl_X1_11 dX1_excludedWheels_10 ?_
      refine lv_iload_n hx hb dX1_excludedWheels_13 rfl (lv_at hl 0 rfl) ?_
      refine s_aald (t0 := 2) (b := a2) C hK X 1 rfl rfl (vp_in_nI (n := 2) (by decide) (by decide)) rfl dX1_excludedWheels_14 ?_
      refine get_wh_8 C hK X 4 rfl fl_X1_93 dX1_excludedWheels_15 ?_
      have J24_6 : ∀ (x5 : Int32) (ls : Array Slot) (H : Heap) (locs : List Loc), x5 = (v_X1_excludedWheels_5 w0 w1 w2) → lv_has ls 3 [(2, .int 2), (1, .int x5), (0, .ref h)] → Wd D A s.heap [(h, ctE z aw al), (aw, waE ty a0 a1 a2 a3), (a0, whE w0 m0), (a1, whE w1 m1), (a2, whE w2 m2), (a3, whE w3 m3)] H locs → W p l e (rmD 0) s m args below meth c H locs 0 0 Q (F0 m 24 ls []) := by
        intro x5 ls H locs ex5 hl X
        subst ex5
        refine lv_iinc (v := 3) (lv' := [(2, .int 3), (1, .int (v_X1_excludedWheels_5 w0 w1 w2)), (0, .ref h)]) hx hb dX1_excludedWheels_24 hl (k := 0) rfl (by decide) (by decide) rfl (fun ls hl => ?_)
        refine lv_goto (tgt := 4) hx hb dX1_excludedWheels_27 (by decide) ?_
        refine lv_iload_n hx hb dX1_excludedWheels_4 rfl (lv_at hl 0 rfl) ?_
        refine lv_iconst (v := 4) hx hb dX1_excludedWheels_5 (by decide) ?_
        refine lv_icmp_ge (tgt := 30) hx hb dX1_excludedWheels_6 (by decide) (fun c0 => absurd c0 (by decide)) (fun _ => ?_)
        refine lv_aload_n hx hb dX1_excludedWheels_9 rfl (lv_at hl 2 rfl) ?_
        refine get_ct_0 C hK X 0 rfl fl_X1_11 dX1_excludedWheels_10 ?_
        refine lv_iload_n hx hb dX1_excludedWheels_13 rfl (lv_at hl 0 rfl) ?_
        refine s_aald (t0 := 2) (b := a3) C hK X 1 rfl rfl (vp_in_nI (n := 3) (by decide) (by decide)) rfl dX1_excludedWheels_14 ?_
        refine get_wh_8 C hK X 5 rfl fl_X1_93 dX1_excludedWheels_15 ?_
        have J24_8 : ∀ (x7 : Int32) (ls : Array Slot) (H : Heap) (locs : List Loc), x7 = (v_X1_excludedWheels_7 w0 w1 w2 w3) → lv_has ls 3 [(2, .int 3), (1, .int x7), (0, .ref h)] → Wd D A s.heap [(h, ctE z aw al), (aw, waE ty a0 a1 a2 a3), (a0, whE w0 m0), (a1, whE w1 m1), (a2, whE w2 m2), (a3, whE w3 m3)] H locs → W p l e (rmD 0) s m args below meth c H locs 0 0 Q (F0 m 24 ls []) := by
          intro x7 ls H locs ex7 hl X
          subst ex7
          refine lv_iinc (v := 4) (lv' := [(2, .int 4), (1, .int (v_X1_excludedWheels_7 w0 w1 w2 w3)), (0, .ref h)]) hx hb dX1_excludedWheels_24 hl (k := 0) rfl (by decide) (by decide) rfl (fun ls hl => ?_)
          refine lv_goto (tgt := 4) hx hb dX1_excludedWheels_27 (by decide) ?_
          refine lv_iload_n hx hb dX1_excludedWheels_4 rfl (lv_at hl 0 rfl) ?_
          refine lv_iconst (v := 4) hx hb dX1_excludedWheels_5 (by decide) ?_
          refine lv_icmp_ge (tgt := 30) hx hb dX1_excludedWheels_6 (by decide) (fun _ => ?_) (fun c0 => absurd (by decide) c0)
          refine lv_iload_n hx hb dX1_excludedWheels_30 rfl (lv_at hl 1 rfl) ?_
          exact hret _ _ _ _ _ _ dX1_excludedWheels_31 X rfl (by first | (rw [f_X1_excludedWheels]; done) | (rw [f_X1_excludedWheels]; rfl) | (simp only [f_X1_excludedWheels]; done))
        refine lv_if_eq (tgt := 24) hx hb dX1_excludedWheels_18 (by decide) (fun c0_0 => ?_) (fun c0_0 => ?_)
        · exact J24_8 (v_X1_excludedWheels_5 w0 w1 w2) _ _ _ (by first | (rw [v_X1_excludedWheels_7, if_pos c0_0]; done) | (rw [v_X1_excludedWheels_7, if_pos c0_0]; rfl) | (simp only [v_X1_excludedWheels_7, if_pos c0_0]; done)) (lv_sub hl [0, 1, 2] rfl) X
        · refine lv_iinc (v := ((v_X1_excludedWheels_5 w0 w1 w2) + 1)) (lv' := [(1, .int ((v_X1_excludedWheels_5 w0 w1 w2) + 1)), (2, .int 3), (0, .ref h)]) hx hb dX1_excludedWheels_21 hl (k := 1) rfl rfl (by decide) rfl (fun ls hl => ?_)
          exact J24_8 ((v_X1_excludedWheels_5 w0 w1 w2) + 1) _ _ _ (by first | (rw [v_X1_excludedWheels_7, if_neg c0_0]; done) | (rw [v_X1_excludedWheels_7, if_neg c0_0]; rfl) | (simp only [v_X1_excludedWheels_7, if_neg c0_0]; done)) (lv_sub hl [1, 0, 2] rfl) X
      refine lv_if_eq (tgt := 24) hx hb dX1_excludedWheels_18 (by decide) (fun c0_0 => ?_) (fun c0_0 => ?_)
      · exact J24_6 (v_X1_excludedWheels_3 w0 w1) _ _ _ (by first | (rw [v_X1_excludedWheels_5, if_pos c0_0]; done) | (rw [v_X1_excludedWheels_5, if_pos c0_0]; rfl) | (simp only [v_X1_excludedWheels_5, if_pos c0_0]; done)) (lv_sub hl [0, 1, 2] rfl) X
      · refine lv_iinc (v := ((v_X1_excludedWheels_3 w0 w1) + 1)) (lv' := [(1, .int ((v_X1_excludedWheels_3 w0 w1) + 1)), (2, .int 2), (0, .ref h)]) hx hb dX1_excludedWheels_21 hl (k := 1) rfl rfl (by decide) rfl (fun ls hl => ?_)
        exact J24_6 ((v_X1_excludedWheels_3 w0 w1) + 1) _ _ _ (by first | (rw [v_X1_excludedWheels_5, if_neg c0_0]; done) | (rw [v_X1_excludedWheels_5, if_neg c0_0]; rfl) | (simp only [v_X1_excludedWheels_5, if_neg c0_0]; done)) (lv_sub hl [1, 0, 2] rfl) X
    refine lv_if_eq (tgt := 24) hx hb dX1_excludedWheels_18 (by decide) (fun c0_0 => ?_) (fun c0_0 => ?_)
    · exact J24_4 (v_X1_excludedWheels_1 w0) _ _ _ (by first | (rw [v_X1_excludedWheels_3, if_pos c0_0]; done) | (rw [v_X1_excludedWheels_3, if_pos c0_0]; rfl) | (simp only [v_X1_excludedWheels_3, if_pos c0_0]; done)) (lv_sub hl [0, 1, 2] rfl) X
    · refine lv_iinc (v := ((v_X1_excludedWheels_1 w0) + 1)) (lv' := [(1, .int ((v_X1_excludedWheels_1 w0) + 1)), (2, .int 1), (0, .ref h)]) hx hb dX1_excludedWheels_21 hl (k := 1) rfl rfl (by decide) rfl (fun ls hl => ?_)
      exact J24_4 ((v_X1_excludedWheels_1 w0) + 1) _ _ _ (by first | (rw [v_X1_excludedWheels_3, if_neg c0_0]; done) | (rw [v_X1_excludedWheels_3, if_neg c0_0]; rfl) | (simp only [v_X1_excludedWheels_3, if_neg c0_0]; done)) (lv_sub hl [1, 0, 2] rfl) X
  refine lv_if_eq (tgt := 24) hx hb dX1_excludedWheels_18 (by decide) (fun c0_0 => ?_) (fun c0_0 => ?_)
  · exact J24_2 0 _ _ _ (by first | (rw [v_X1_excludedWheels_1, if_pos c0_0]; done) | (rw [v_X1_excludedWheels_1, if_pos c0_0]; rfl) | (simp only [v_X1_excludedWheels_1, if_pos c0_0]; done)) (lv_sub hl [0, 1, 2] rfl) X
  · refine lv_iinc (v := 1) (lv' := [(1, .int 1), (2, .int 0), (0, .ref h)]) hx hb dX1_excludedWheels_21 hl (k := 1) rfl (by decide) (by decide) rfl (fun ls hl => ?_)
    exact J24_2 1 _ _ _ (by first | (rw [v_X1_excludedWheels_1, if_neg c0_0]; done) | (rw [v_X1_excludedWheels_1, if_neg c0_0]; rfl) | (simp only [v_X1_excludedWheels_1, if_neg c0_0]; done)) (lv_sub hl [1, 0, 2] rfl) X
def f_X1_isFrontExcluded (w0 : F1) (w1 : F1) : Int32 := (if (w0 7) = 0 then (if (w1 7) = 0 then 0 else 1) else 1)
set_option maxHeartbeats 4000000 in
set_option maxRecDepth 100000 in
theorem c_X1_isFrontExcluded (l : Launch) (D : va_G) (ty : Nat → ClassId) (h : Nat) (aw : Nat) (al : Nat) (a0 : Nat) (a1 : Nat) (a2 : Nat) (a3 : Nat) (m0 : Nat) (m1 : Nat) (m2 : Nat) (m3 : Nat) (z : F1) (w0 : F1) (w1 : F1) (w2 : F1) (w3 : F1) : MC l D ty yX1_isFrontExcluded cX1_isFrontExcluded 1 (some .boolean) 0 [.ref h] [(h, ctE z aw al), (aw, waE ty a0 a1 a2 a3), (a0, whE w0 m0), (a1, whE w1 m1), (a2, whE w2 m2), (a3, whE w3 m3)] (some (.int (f_X1_isFrontExcluded w0 w1))) [(h, ctE z aw al), (aw, waE ty a0 a1 a2 a3), (a0, whE w0 m0), (a1, whE w1 m1), (a2, whE w2 m2), (a3, whE w3 m3)] := by
  refine mc_z (by decide +kernel) (Nat.le_of_ble_eq_true rfl) (and_b (by unfold f_X1_isFrontExcluded; (repeat' split) <;> first | exact isB0 | exact isB1)) ?_
  intro p e s m args below meth c A Q ls C hK hA X hret hl
  have hx := C.1
  have hb := C.2.1
  have hl : lv_has ls 1 [(0, .ref h)] := hl
  have X : Wd D A s.heap [(h, ctE z aw al), (aw, waE ty a0 a1 a2 a3), (a0, whE w0 m0), (a1, whE w1 m1), (a2, whE w2 m2), (a3, whE w3 m3)] s.heap [] := X
  refine lv_aload_n hx hb dX1_isFrontExcluded_0 rfl (lv_at hl 0 rfl) ?_
  refine get_ct_0 C hK X 0 rfl fl_X1_11 dX1_isFrontExcluded_1 ?_
  refine lv_iconst (v := 0) hx hb dX1_isFrontExcluded_4 (by decide) ?_
  refine s_aald (t0 := 2) (b := a0) C hK X 1 rfl rfl (vp_in_nI (n := 0) (by decide) (by decide)) rfl dX1_isFrontExcluded_5 ?_
  refine get_wh_8 C hK X 2 rfl fl_X1_93 dX1_isFrontExcluded_6 ?_
  refine lv_if_ne (tgt := 24) hx hb dX1_isFrontExcluded_9 (by decide) (fun c0_0 => ?_) (fun c0_0 => ?_)
  · refine lv_iconst (v := 1) hx hb dX1_isFrontExcluded_24 (by decide) ?_
    refine lv_goto (tgt := 29) hx hb dX1_isFrontExcluded_25 (by decide) ?_
    exact hret _ _ _ _ _ _ dX1_isFrontExcluded_29 X rfl (by first | (rw [f_X1_isFrontExcluded, if_neg c0_0]; done) | (rw [f_X1_isFrontExcluded, if_neg c0_0]; rfl) | (simp only [f_X1_isFrontExcluded, if_neg c0_0]; done))
  · refine lv_aload_n hx hb dX1_isFrontExcluded_12 rfl (lv_at hl 0 rfl) ?_
    refine get_ct_0 C hK X 0 rfl fl_X1_11 dX1_isFrontExcluded_13 ?_
    refine lv_iconst (v := 1) hx hb dX1_isFrontExcluded_16 (by decide) ?_
    refine s_aald (t0 := 2) (b := a1) C hK X 1 rfl rfl (vp_in_nI (n := 1) (by decide) (by decide)) rfl dX1_isFrontExcluded_17 ?_
    refine get_wh_8 C hK X 3 rfl fl_X1_93 dX1_isFrontExcluded_18 ?_
    refine lv_if_eq (tgt := 28) hx hb dX1_isFrontExcluded_21 (by decide) (fun c1_1 => ?_) (fun c1_1 => ?_)
    · refine lv_iconst (v := 0) hx hb dX1_isFrontExcluded_28 (by decide) ?_
      exact hret _ _ _ _ _ _ dX1_isFrontExcluded_29 X rfl (by first | (rw [f_X1_isFrontExcluded, if_pos c0_0, if_pos c1_1]; done) | (rw [f_X1_isFrontExcluded, if_pos c0_0, if_pos c1_1]; rfl) | (simp only [f_X1_isFrontExcluded, if_pos c0_0, if_pos c1_1]; done))
    · refine lv_iconst (v := 1) hx hb dX1_isFrontExcluded_24 (by decide) ?_
      refine lv_goto (tgt := 29) hx hb dX1_isFrontExcluded_25 (by decide) ?_
      exact hret _ _ _ _ _ _ dX1_isFrontExcluded_29 X rfl (by first | (rw [f_X1_isFrontExcluded, if_pos c0_0, if_neg c1_1]; done) | (rw [f_X1_isFrontExcluded, if_pos c0_0, if_neg c1_1]; rfl) | (simp only [f_X1_isFrontExcluded, if_pos c0_0, if_neg c1_1]; done))
def f_X1_isRearExcluded (w2 : F1) (w3 : F1) : Int32 := (if (w2 7) = 0 then (if (w3 7) = 0 then 0 else 1) else 1)
set_option maxHeartbeats 4000000 in
set_option maxRecDepth 100000 in
theorem c_X1_isRearExcluded (l : Launch) (D : va_G) (ty : Nat → ClassId) (h : Nat) (aw : Nat) (al : Nat) (a0 : Nat) (a1 : Nat) (a2 : Nat) (a3 : Nat) (m0 : Nat) (m1 : Nat) (m2 : Nat) (m3 : Nat) (z : F1) (w0 : F1) (w1 : F1) (w2 : F1) (w3 : F1) : MC l D ty yX1_isRearExcluded cX1_isRearExcluded 1 (some .boolean) 0 [.ref h] [(h, ctE z aw al), (aw, waE ty a0 a1 a2 a3), (a0, whE w0 m0), (a1, whE w1 m1), (a2, whE w2 m2), (a3, whE w3 m3)] (some (.int (f_X1_isRearExcluded w2 w3))) [(h, ctE z aw al), (aw, waE ty a0 a1 a2 a3), (a0, whE w0 m0), (a1, whE w1 m1), (a2, whE w2 m2), (a3, whE w3 m3)] := by
  refine mc_z (by decide +kernel) (Nat.le_of_ble_eq_true rfl) (and_b (by unfold f_X1_isRearExcluded; (repeat' split) <;> first | exact isB0 | exact isB1)) ?_
  intro p e s m args below meth c A Q ls C hK hA X hret hl
  have hx := C.1
  have hb := C.2.1
  have hl : lv_has ls 1 [(0, .ref h)] := hl
  have X : Wd D A s.heap [(h, ctE z aw al), (aw, waE ty a0 a1 a2 a3), (a0, whE w0 m0), (a1, whE w1 m1), (a2, whE w2 m2), (a3, whE w3 m3)] s.heap [] := X
  refine lv_aload_n hx hb dX1_isRearExcluded_0 rfl (lv_at hl 0 rfl) ?_
  refine get_ct_0 C hK X 0 rfl fl_X1_11 dX1_isRearExcluded_1 ?_
  refine lv_iconst (v := 2) hx hb dX1_isRearExcluded_4 (by decide) ?_
  refine s_aald (t0 := 2) (b := a2) C hK X 1 rfl rfl (vp_in_nI (n := 2) (by decide) (by decide)) rfl dX1_isRearExcluded_5 ?_
  refine get_wh_8 C hK X 4 rfl fl_X1_93 dX1_isRearExcluded_6 ?_
  refine lv_if_ne (tgt := 24) hx hb dX1_isRearExcluded_9 (by decide) (fun c0_0 => ?_) (fun c0_0 => ?_)
  · refine lv_iconst (v := 1) hx hb dX1_isRearExcluded_24 (by decide) ?_
    refine lv_goto (tgt := 29) hx hb dX1_isRearExcluded_25 (by decide) ?_
    exact hret _ _ _ _ _ _ dX1_isRearExcluded_29 X rfl (by first | (rw [f_X1_isRearExcluded, if_neg c0_0]; done) | (rw [f_X1_isRearExcluded, if_neg c0_0]; rfl) | (simp only [f_X1_isRearExcluded, if_neg c0_0]; done))
  · refine lv_aload_n hx hb dX1_isRearExcluded_12 rfl (lv_at hl 0 rfl) ?_
    refine get_ct_0 C hK X 0 rfl fl_X1_11 dX1_isRearExcluded_13 ?_
    refine lv_iconst (v := 3) hx hb dX1_isRearExcluded_16 (by decide) ?_
    refine s_aald (t0 := 2) (b := a3) C hK X 1 rfl rfl (vp_in_nI (n := 3) (by decide) (by decide)) rfl dX1_isRearExcluded_17 ?_
    refine get_wh_8 C hK X 5 rfl fl_X1_93 dX1_isRearExcluded_18 ?_
    refine lv_if_eq (tgt := 28) hx hb dX1_isRearExcluded_21 (by decide) (fun c1_1 => ?_) (fun c1_1 => ?_)
    · refine lv_iconst (v := 0) hx hb dX1_isRearExcluded_28 (by decide) ?_
      exact hret _ _ _ _ _ _ dX1_isRearExcluded_29 X rfl (by first | (rw [f_X1_isRearExcluded, if_pos c0_0, if_pos c1_1]; done) | (rw [f_X1_isRearExcluded, if_pos c0_0, if_pos c1_1]; rfl) | (simp only [f_X1_isRearExcluded, if_pos c0_0, if_pos c1_1]; done))
    · refine lv_iconst (v := 1) hx hb dX1_isRearExcluded_24 (by decide) ?_
      refine lv_goto (tgt := 29) hx hb dX1_isRearExcluded_25 (by decide) ?_
      exact hret _ _ _ _ _ _ dX1_isRearExcluded_29 X rfl (by first | (rw [f_X1_isRearExcluded, if_pos c0_0, if_neg c1_1]; done) | (rw [f_X1_isRearExcluded, if_pos c0_0, if_neg c1_1]; rfl) | (simp only [f_X1_isRearExcluded, if_pos c0_0, if_neg c1_1]; done))
def f_X1_isActive (z : F1) (w0 : F1) (w1 : F1) (w2 : F1) (w3 : F1) (dm : Int32) : Int32 := (if (z 4) = 0 then 0 else (if dm ≤ 0 then 0 else (if (z 0) < 1400 then 0 else (if 2 ≤ (f_X1_excludedWheels w0 w1 w2 w3) then 0 else 1))))
set_option maxHeartbeats 4000000 in
set_option maxRecDepth 100000 in
theorem c_X1_isActive (l : Launch) (D : va_G) (ty : Nat → ClassId) (h : Nat) (aw : Nat) (al : Nat) (a0 : Nat) (a1 : Nat) (a2 : Nat) (a3 : Nat) (m0 : Nat) (m1 : Nat) (m2 : Nat) (m3 : Nat) (z : F1) (w0 : F1) (w1 : F1) (w2 : F1) (w3 : F1) (dm : Int32) : MC l D ty yX1_isActive cX1_isActive 2 (some .boolean) 1 [.ref h, .int dm] [(h, ctE z aw al), (aw, waE ty a0 a1 a2 a3), (a0, whE w0 m0), (a1, whE w1 m1), (a2, whE w2 m2), (a3, whE w3 m3)] (some (.int (f_X1_isActive z w0 w1 w2 w3 dm))) [(h, ctE z aw al), (aw, waE ty a0 a1 a2 a3), (a0, whE w0 m0), (a1, whE w1 m1), (a2, whE w2 m2), (a3, whE w3 m3)] := by
  refine mc_z (by decide +kernel) (Nat.le_of_ble_eq_true rfl) (and_b (by unfold f_X1_isActive; (repeat' split) <;> first | exact isB0 | exact isB1)) ?_
  intro p e s m args below meth c A Q ls C hK hA X hret hl
  have hx := C.1
  have hb := C.2.1
  have hl : lv_has ls 2 [(0, .ref h), (1, .int dm)] := hl
  have X : Wd D A s.heap [(h, ctE z aw al), (aw, waE ty a0 a1 a2 a3), (a0, whE w0 m0), (a1, whE w1 m1), (a2, whE w2 m2), (a3, whE w3 m3)] s.heap [] := X
  refine lv_aload_n hx hb dX1_isActive_0 rfl (lv_at hl 0 rfl) ?_
  refine get_ct_2 C hK X 0 rfl fl_X1_33 dX1_isActive_1 ?_
  refine lv_if_eq (tgt := 33) hx hb dX1_isActive_4 (by decide) (fun c0_0 => ?_) (fun c0_0 => ?_)
  · refine lv_iconst (v := 0) hx hb dX1_isActive_33 (by decide) ?_
    exact hret _ _ _ _ _ _ dX1_isActive_34 X rfl (by first | (rw [f_X1_isActive, if_pos c0_0]; done) | (rw [f_X1_isActive, if_pos c0_0]; rfl) | (simp only [f_X1_isActive, if_pos c0_0]; done))
  · refine lv_iload_n hx hb dX1_isActive_7 rfl (lv_at hl 1 rfl) ?_
    refine lv_if_le (tgt := 33) hx hb dX1_isActive_8 (by decide) (fun c1_1 => ?_) (fun c1_1 => ?_)
    · refine lv_iconst (v := 0) hx hb dX1_isActive_33 (by decide) ?_
      exact hret _ _ _ _ _ _ dX1_isActive_34 X rfl (by first | (rw [f_X1_isActive, if_neg c0_0, if_pos c1_1]; done) | (rw [f_X1_isActive, if_neg c0_0, if_pos c1_1]; rfl) | (simp only [f_X1_isActive, if_neg c0_0, if_pos c1_1]; done))
    · refine lv_aload_n hx hb dX1_isActive_11 rfl (lv_at hl 0 rfl) ?_
      refine get_ct_3 C hK X 0 rfl fl_X1_42 dX1_isActive_12 ?_
      refine lv_sipush (v := 1400) hx hb dX1_isActive_15 (by decide) ?_
      refine lv_icmp_lt (tgt := 33) hx hb dX1_isActive_18 (by decide) (fun c2_2 => ?_) (fun c2_2 => ?_)
      · refine lv_iconst (v := 0) hx hb dX1_isActive_33 (by decide) ?_
        exact hret _ _ _ _ _ _ dX1_isActive_34 X rfl (by first | (rw [f_X1_isActive, if_neg c0_0, if_neg c1_1, if_pos c2_2]; done) | (rw [f_X1_isActive, if_neg c0_0, if_neg c1_1, if_pos c2_2]; rfl) | (simp only [f_X1_isActive, if_neg c0_0, if_neg c1_1, if_pos c2_2]; done))
      · refine lv_aload_n hx hb dX1_isActive_21 rfl (lv_at hl 0 rfl) ?_
        refine s_cV0i C hK hA X (c_X1_excludedWheels l D ty h aw al a0 a1 a2 a3 m0 m1 m2 m3 z w0 w1 w2 w3) [0, 1, 2, 3, 4, 5] (pk_c rfl (pk_c rfl (pk_c rfl (pk_c rfl (pk_c rfl (pk_c rfl pk_n)))))) rfl ml_X1_excludedWheels wm_X1_89 (q0 := 0) rfl rfl rfl ⟨Nat.le_of_ble_eq_true rfl, Nat.le_of_ble_eq_true rfl⟩ ⟨Nat.zero_le _, Nat.zero_le _⟩ hl.1 rfl (Nat.le_of_ble_eq_true rfl) dX1_isActive_22 (fun H locs X => ?_)
        refine lv_iconst (v := 2) hx hb dX1_isActive_25 (by decide) ?_
        refine lv_icmp_ge (tgt := 33) hx hb dX1_isActive_26 (by decide) (fun c3_3 => ?_) (fun c3_3 => ?_)
        · refine lv_iconst (v := 0) hx hb dX1_isActive_33 (by decide) ?_
          exact hret _ _ _ _ _ _ dX1_isActive_34 X rfl (by first | (rw [f_X1_isActive, if_neg c0_0, if_neg c1_1, if_neg c2_2, if_pos c3_3]; done) | (rw [f_X1_isActive, if_neg c0_0, if_neg c1_1, if_neg c2_2, if_pos c3_3]; rfl) | (simp only [f_X1_isActive, if_neg c0_0, if_neg c1_1, if_neg c2_2, if_pos c3_3]; done))
        · refine lv_iconst (v := 1) hx hb dX1_isActive_29 (by decide) ?_
          refine lv_goto (tgt := 34) hx hb dX1_isActive_30 (by decide) ?_
          exact hret _ _ _ _ _ _ dX1_isActive_34 X rfl (by first | (rw [f_X1_isActive, if_neg c0_0, if_neg c1_1, if_neg c2_2, if_neg c3_3]; done) | (rw [f_X1_isActive, if_neg c0_0, if_neg c1_1, if_neg c2_2, if_neg c3_3]; rfl) | (simp only [f_X1_isActive, if_neg c0_0, if_neg c1_1, if_neg c2_2, if_neg c3_3]; done))
def f_X1_takeBackWheels (w0 : F1) (w1 : F1) (w2 : F1) (w3 : F1) : Int32 := (f_X1_excludedWheels w0 w1 w2 w3)
def f_X1_takeBackWheels_a0 (w0 : F1) : F1 := (upd (upd w0 7 0) 8 0)
def f_X1_takeBackWheels_a1 (w1 : F1) : F1 := (upd (upd w1 7 0) 8 0)
def f_X1_takeBackWheels_a2 (w2 : F1) : F1 := (upd (upd w2 7 0) 8 0)
def f_X1_takeBackWheels_a3 (w3 : F1) : F1 := (upd (upd w3 7 0) 8 0)
theorem ok_X1_takeBackWheels_a0 (w0 : F1) (tk_a0 : kpOK w0) : kpOK (f_X1_takeBackWheels_a0 w0) := by
  (try simp only [f_X1_takeBackWheels_a0]); exact (kp_upd (kp_upd tk_a0))
theorem ok_X1_takeBackWheels_a1 (w1 : F1) (tk_a1 : kpOK w1) : kpOK (f_X1_takeBackWheels_a1 w1) := by
  (try simp only [f_X1_takeBackWheels_a1]); exact (kp_upd (kp_upd tk_a1))
theorem ok_X1_takeBackWheels_a2 (w2 : F1) (tk_a2 : kpOK w2) : kpOK (f_X1_takeBackWheels_a2 w2) := by
  (try simp only [f_X1_takeBackWheels_a2]); exact (kp_upd (kp_upd tk_a2))
theorem ok_X1_takeBackWheels_a3 (w3 : F1) (tk_a3 : kpOK w3) : kpOK (f_X1_takeBackWheels_a3 w3) := by
  (try simp only [f_X1_takeBackWheels_a3]); exact (kp_upd (kp_upd tk_a3))
set_option maxHeartbeats 4000000 in
set_option maxRecDepth 100000 in
theorem c_X1_takeBackWheels (l : Launch) (D : va_G) (ty : Nat → ClassId) (h : Nat) (aw : Nat) (al : Nat) (a0 : Nat) (a1 : Nat) (a2 : Nat) (a3 : Nat) (m0 : Nat) (m1 : Nat) (m2 : Nat) (m3 : Nat) (z : F1) (w0 : F1) (w1 : F1) (w2 : F1) (w3 : F1) : MC l D ty yX1_takeBackWheels cX1_takeBackWheels 3 (some .int) 1 [.ref h] [(h, ctE z aw al), (aw, waE ty a0 a1 a2 a3), (a0, whE w0 m0), (a1, whE w1 m1), (a2, whE w2 m2), (a3, whE w3 m3)] (some (.int (f_X1_takeBackWheels w0 w1 w2 w3))) [(h, ctE z aw al), (aw, waE ty a0 a1 a2 a3), (a0, whE (f_X1_takeBackWheels_a0 w0) m0), (a1, whE (f_X1_takeBackWheels_a1 w1) m1), (a2, whE (f_X1_takeBackWheels_a2 w2) m2), (a3, whE (f_X1_takeBackWheels_a3 w3) m3)] := by
  refine mc_i (by decide +kernel) (Nat.le_of_ble_eq_true rfl) ?_
  intro p e s m args below meth c A Q ls C hK hA X hret hl
  have hx := C.1
  have hb := C.2.1
  have hl : lv_has ls 3 [(0, .ref h)] := hl
  have X : Wd D A s.heap [(h, ctE z aw al), (aw, waE ty a0 a1 a2 a3), (a0, whE w0 m0), (a1, whE w1 m1), (a2, whE w2 m2), (a3, whE w3 m3)] s.heap [] := X
  refine lv_aload_n hx hb dX1_takeBackWheels_0 rfl (lv_at hl 0 rfl) ?_
  refine s_cV0i C hK hA X (c_X1_excludedWheels l D ty h aw al a0 a1 a2 a3 m0 m1 m2 m3 z w0 w1 w2 w3) [0, 1, 2, 3, 4, 5] (pk_c rfl (pk_c rfl (pk_c rfl (pk_c rfl (pk_c rfl (pk_c rfl pk_n)))))) rfl ml_X1_excludedWheels wm_X1_89 (q0 := 0) rfl rfl rfl ⟨Nat.le_of_ble_eq_true rfl, Nat.le_of_ble_eq_true rfl⟩ ⟨Nat.zero_le _, Nat.zero_le _⟩ hl.1 rfl (Nat.le_of_ble_eq_true rfl) dX1_takeBackWheels_1 (fun H locs X => ?_)
  refine lv_istore_n (lv' := [(1, .int (f_X1_excludedWheels w0 w1 w2 w3)), (0, .ref h)]) hx hb dX1_takeBackWheels_4 rfl hl (by decide) rfl (fun ls hl => ?_)
  refine lv_iconst (v := 0) hx hb dX1_takeBackWheels_5 (by decide) ?_
  refine lv_istore_n (lv' := [(2, .int 0), (1, .int (f_X1_excludedWheels w0 w1 w2 w3)), (0, .ref h)]) hx hb dX1_takeBackWheels_6 rfl hl (by decide) rfl (fun ls hl => ?_)
  refine lv_iload_n hx hb dX1_takeBackWheels_7 rfl (lv_at hl 0 rfl) ?_
  refine lv_iconst (v := 4) hx hb dX1_takeBackWheels_8 (by decide) ?_
  refine lv_icmp_ge (tgt := 38) hx hb dX1_takeBackWheels_9 (by decide) (fun c0 => absurd c0 (by decide)) (fun _ => ?_)
  refine lv_aload_n hx hb dX1_takeBackWheels_12 rfl (lv_at hl 2 rfl) ?_
  refine get_ct_0 C hK X 0 rfl fl_X1_11 dX1_takeBackWheels_13 ?_
  refine lv_iload_n hx hb dX1_takeBackWheels_16 rfl (lv_at hl 0 rfl) ?_
  refine s_aald (t0 := 2) (b := a0) C hK X 1 rfl rfl (vp_in_nI (n := 0) (by decide) (by decide)) rfl dX1_takeBackWheels_17 ?_
  refine lv_iconst (v := 0) hx hb dX1_takeBackWheels_18 (by decide) ?_
  refine put_wh_8 C hK X 2 rfl pl_X1_93 isB0 dX1_takeBackWheels_19 (fun H locs X => ?_)
  have X : Wd D A s.heap [(h, ctE z aw al), (aw, waE ty a0 a1 a2 a3), (a0, whE (upd w0 7 0) m0), (a1, whE w1 m1), (a2, whE w2 m2), (a3, whE w3 m3)] H locs := X
  refine lv_aload_n hx hb dX1_takeBackWheels_22 rfl (lv_at hl 2 rfl) ?_
  refine get_ct_0 C hK X 0 rfl fl_X1_11 dX1_takeBackWheels_23 ?_
  refine lv_iload_n hx hb dX1_takeBackWheels_26 rfl (lv_at hl 0 rfl) ?_
  refine s_aald (t0 := 2) (b := a0) C hK X 1 rfl rfl (vp_in_nI (n := 0) (by decide) (by decide)) rfl dX1_takeBackWheels_27 ?_
  refine lv_iconst (v := 0) hx hb dX1_takeBackWheels_28 (by decide) ?_
  refine put_wh_7 C hK X 2 rfl pl_X1_96 dX1_takeBackWheels_29 (fun H locs X => ?_)
  have X : Wd D A s.heap [(h, ctE z aw al), (aw, waE ty a0 a1 a2 a3), (a0, whE (upd (upd w0 7 0) 8 0) m0), (a1, whE w1 m1), (a2, whE w2 m2), (a3, whE w3 m3)] H locs := X
  refine lv_iinc (v := 1) (lv' := [(2, .int 1), (1, .int (f_X1_excludedWheels w0 w1 w2 w3)), (0, .ref h)]) hx hb dX1_takeBackWheels_32 hl (k := 0) rfl (by decide) (by decide) rfl (fun ls hl => ?_)
  refine lv_goto (tgt := 7) hx hb dX1_takeBackWheels_35 (by decide) ?_
  refine lv_iload_n hx hb dX1_takeBackWheels_7 rfl (lv_at hl 0 rfl) ?_
  refine lv_iconst (v := 4) hx hb dX1_takeBackWheels_8 (by decide) ?_
  refine lv_icmp_ge (tgt := 38) hx hb dX1_takeBackWheels_9 (by decide) (fun c0 => absurd c0 (by decide)) (fun _ => ?_)
  refine lv_aload_n hx hb dX1_takeBackWheels_12 rfl (lv_at hl 2 rfl) ?_
  refine get_ct_0 C hK X 0 rfl fl_X1_11 dX1_takeBackWheels_13 ?_
  refine lv_iload_n hx hb dX1_takeBackWheels_16 rfl (lv_at hl 0 rfl) ?_
  refine s_aald (t0 := 2) (b := a1) C hK X 1 rfl rfl (vp_in_nI (n := 1) (by decide) (by decide)) rfl dX1_takeBackWheels_17 ?_
  refine lv_iconst (v := 0) hx hb dX1_takeBackWheels_18 (by decide) ?_
  refine put_wh_8 C hK X 3 rfl pl_X1_93 isB0 dX1_takeBackWheels_19 (fun H locs X => ?_)
  have X : Wd D A s.heap [(h, ctE z aw al), (aw, waE ty a0 a1 a2 a3), (a0, whE (upd (upd w0 7 0) 8 0) m0), (a1, whE (upd w1 7 0) m1), (a2, whE w2 m2), (a3, whE w3 m3)] H locs := X
  refine lv_aload_n hx hb dX1_takeBackWheels_22 rfl (lv_at hl 2 rfl) ?_
  refine get_ct_0 C hK X 0 rfl fl_X1_11 dX1_takeBackWheels_23 ?_
  refine lv_iload_n hx hb dX1_takeBackWheels_26 rfl (lv_at hl 0 rfl) ?_
  refine s_aald (t0 := 2) (b := a1) C hK X 1 rfl rfl (vp_in_nI (n := 1) (by decide) (by decide)) rfl dX1_takeBackWheels_27 ?_
  refine lv_iconst (v := 0) hx hb dX1_takeBackWheels_28 (by decide) ?_
  refine put_wh_7 C hK X 3 rfl pl_X1_96 dX1_takeBackWheels_29 (fun H locs X => ?_)
  have X : Wd D A s.heap [(h, ctE z aw al), (aw, waE ty a0 a1 a2 a3), (a0, whE (upd (upd w0 7 0) 8 0) m0), (a1, whE (upd (upd w1 7 0) 8 0) m1), (a2, whE w2 m2), (a3, whE w3 m3)] H locs := X
  refine lv_iinc (v := 2) (lv' := [(2, .int 2), (1, .int (f_X1_excludedWheels w0 w1 w2 w3)), (0, .ref h)]) hx hb dX1_takeBackWheels_32 hl (k := 0) rfl (by decide) (by decide) rfl (fun ls hl => ?_)
  refine lv_goto (tgt := 7) hx hb dX1_takeBackWheels_35 (by decide) ?_
  refine lv_iload_n hx hb dX1_takeBackWheels_7 rfl (lv_at hl 0 rfl) ?_
  refine lv_iconst (v := 4) hx hb dX1_takeBackWheels_8 (by decide) ?_
  refine lv_icmp_ge (tgt := 38) hx hb dX1_takeBackWheels_9 (by decide) (fun c0 => absurd c0 (by decide)) (fun _ => ?_)
  refine lv_aload_n hx hb dX1_takeBackWheels_12 rfl (lv_at hl 2 rfl) ?_
  refine get_ct_0 C hK X 0 rfl fl_X1_11 dX1_takeBackWheels_13 ?_
  refine lv_iload_n hx hb dX1_takeBackWheels_16 rfl (lv_at hl 0 rfl) ?_
  refine s_aald (t0 := 2) (b := a2) C hK X 1 rfl rfl (vp_in_nI (n := 2) (by decide) (by decide)) rfl dX1_takeBackWheels_17 ?_
  refine lv_iconst (v := 0) hx hb dX1_takeBackWheels_18 (by decide) ?_
  refine put_wh_8 C hK X 4 rfl pl_X1_93 isB0 dX1_takeBackWheels_19 (fun H locs X => ?_)
  have X : Wd D A s.heap [(h, ctE z aw al), (aw, waE ty a0 a1 a2 a3), (a0, whE (upd (upd w0 7 0) 8 0) m0), (a1, whE (upd (upd w1 7 0) 8 0) m1), (a2, whE (upd w2 7 0) m2), (a3, whE w3 m3)] H locs := X
  refine lv_aload_n hx hb dX1_takeBackWheels_22 rfl (lv_at hl 2 rfl) ?_
  refine get_ct_0 C hK X 0 rfl fl_X1_11 dX1_takeBackWheels_23 ?_
  refine lv_iload_n hx hb dX1_takeBackWheels_26 rfl (lv_at hl 0 rfl) ?_
  refine s_aald (t0 := 2) (b := a2) C hK X 1 rfl rfl (vp_in_nI (n := 2) (by decide) (by decide)) rfl dX1_takeBackWheels_27 ?_
  refine lv_iconst (v := 0) hx hb dX1_takeBackWheels_28 (by decide) ?_
  refine put_wh_7 C hK X 4 rfl pl_X1_96 dX1_takeBackWheels_29 (fun H locs X => ?_)
  have X : Wd D A s.heap [(h, ctE z aw al), (aw, waE ty a0 a1 a2 a3), (a0, whE (upd (upd w0 7 0) 8 0) m0), (a1, whE (upd (upd w1 7 0) 8 0) m1), (a2, whE (upd (upd w2 7 0) 8 0) m2), (a3, whE w3 m3)] H locs := X
  refine lv_iinc (v := 3) (lv' := [(2, .int 3), (1, .int (f_X1_excludedWheels w0 w1 w2 w3)), (0, .ref h)]) hx hb dX1_takeBackWheels_32 hl (k := 0) rfl (by decide) (by decide) rfl (fun ls hl => ?_)
  refine lv_goto (tgt := 7) hx hb dX1_takeBackWheels_35 (by decide) ?_
  refine lv_iload_n hx hb dX1_takeBackWheels_7 rfl (lv_at hl 0 rfl) ?_
  refine lv_iconst (v := 4) hx hb dX1_takeBackWheels_8 (by decide) ?_
  refine lv_icmp_ge (tgt := 38) hx hb dX1_takeBackWheels_9 (by decide) (fun c0 => absurd c0 (by decide)) (fun _ => ?_)
  refine lv_aload_n hx hb dX1_takeBackWheels_12 rfl (lv_at hl 2 rfl) ?_
  refine get_ct_0 C hK X 0 rfl fl_X1_11 dX1_takeBackWheels_13 ?_
  refine lv_iload_n hx hb dX1_takeBackWheels_16 rfl (lv_at hl 0 rfl) ?_
  refine s_aald (t0 := 2) (b := a3) C hK X 1 rfl rfl (vp_in_nI (n := 3) (by decide) (by decide)) rfl dX1_takeBackWheels_17 ?_
  refine lv_iconst (v := 0) hx hb dX1_takeBackWheels_18 (by decide) ?_
  refine put_wh_8 C hK X 5 rfl pl_X1_93 isB0 dX1_takeBackWheels_19 (fun H locs X => ?_)
  have X : Wd D A s.heap [(h, ctE z aw al), (aw, waE ty a0 a1 a2 a3), (a0, whE (upd (upd w0 7 0) 8 0) m0), (a1, whE (upd (upd w1 7 0) 8 0) m1), (a2, whE (upd (upd w2 7 0) 8 0) m2), (a3, whE (upd w3 7 0) m3)] H locs := X
  refine lv_aload_n hx hb dX1_takeBackWheels_22 rfl (lv_at hl 2 rfl) ?_
  refine get_ct_0 C hK X 0 rfl fl_X1_11 dX1_takeBackWheels_23 ?_
  refine lv_iload_n hx hb dX1_takeBackWheels_26 rfl (lv_at hl 0 rfl) ?_
  refine s_aald (t0 := 2) (b := a3) C hK X 1 rfl rfl (vp_in_nI (n := 3) (by decide) (by decide)) rfl dX1_takeBackWheels_27 ?_
  refine lv_iconst (v := 0) hx hb dX1_takeBackWheels_28 (by decide) ?_
  refine put_wh_7 C hK X 5 rfl pl_X1_96 dX1_takeBackWheels_29 (fun H locs X => ?_)
  have X : Wd D A s.heap [(h, ctE z aw al), (aw, waE ty a0 a1 a2 a3), (a0, whE (upd (upd w0 7 0) 8 0) m0), (a1, whE (upd (upd w1 7 0) 8 0) m1), (a2, whE (upd (upd w2 7 0) 8 0) m2), (a3, whE (upd (upd w3 7 0) 8 0) m3)] H locs := X
  refine lv_iinc (v := 4) (lv' := [(2, .int 4), (1, .int (f_X1_excludedWheels w0 w1 w2 w3)), (0, .ref h)]) hx hb dX1_takeBackWheels_32 hl (k := 0) rfl (by decide) (by decide) rfl (fun ls hl => ?_)
  refine lv_goto (tgt := 7) hx hb dX1_takeBackWheels_35 (by decide) ?_
  refine lv_iload_n hx hb dX1_takeBackWheels_7 rfl (lv_at hl 0 rfl) ?_
  refine lv_iconst (v := 4) hx hb dX1_takeBackWheels_8 (by decide) ?_
  refine lv_icmp_ge (tgt := 38) hx hb dX1_takeBackWheels_9 (by decide) (fun _ => ?_) (fun c0 => absurd (by decide) c0)
  refine lv_iload_n hx hb dX1_takeBackWheels_38 rfl (lv_at hl 1 rfl) ?_
  have e_2_0 : (f_X1_takeBackWheels_a0 w0) = (upd (upd w0 7 0) 8 0) := by first | (rw [f_X1_takeBackWheels_a0]; done) | (rw [f_X1_takeBackWheels_a0]; rfl) | (simp only [f_X1_takeBackWheels_a0]; done)
  have e_3_0 : (f_X1_takeBackWheels_a1 w1) = (upd (upd w1 7 0) 8 0) := by first | (rw [f_X1_takeBackWheels_a1]; done) | (rw [f_X1_takeBackWheels_a1]; rfl) | (simp only [f_X1_takeBackWheels_a1]; done)
  have e_4_0 : (f_X1_takeBackWheels_a2 w2) = (upd (upd w2 7 0) 8 0) := by first | (rw [f_X1_takeBackWheels_a2]; done) | (rw [f_X1_takeBackWheels_a2]; rfl) | (simp only [f_X1_takeBackWheels_a2]; done)
  have e_5_0 : (f_X1_takeBackWheels_a3 w3) = (upd (upd w3 7 0) 8 0) := by first | (rw [f_X1_takeBackWheels_a3]; done) | (rw [f_X1_takeBackWheels_a3]; rfl) | (simp only [f_X1_takeBackWheels_a3]; done)
  exact hret _ _ _ _ _ _ dX1_takeBackWheels_39 X (by rw [e_2_0, e_3_0, e_4_0, e_5_0]) (by first | (rw [f_X1_takeBackWheels]; done) | (rw [f_X1_takeBackWheels]; rfl) | (simp only [f_X1_takeBackWheels]; done))
def f_X1_measureWheels_a0 (w0 : F1) (f0 : F1) : F1 := (f_X5_measure_h w0 f0)
def f_X1_measureWheels_a1 (w1 : F1) (f1 : F1) : F1 := (f_X5_measure_h w1 f1)
def f_X1_measureWheels_a2 (w2 : F1) (f2 : F1) : F1 := (f_X5_measure_h w2 f2)
def f_X1_measureWheels_a3 (w3 : F1) (f3 : F1) : F1 := (f_X5_measure_h w3 f3)
def f_X1_measureWheels_m0 (w0 : F1) (f0 : F1) : F1 := (f_X5_measure_am w0 f0)
def f_X1_measureWheels_m1 (w1 : F1) (f1 : F1) : F1 := (f_X5_measure_am w1 f1)
def f_X1_measureWheels_m2 (w2 : F1) (f2 : F1) : F1 := (f_X5_measure_am w2 f2)
def f_X1_measureWheels_m3 (w3 : F1) (f3 : F1) : F1 := (f_X5_measure_am w3 f3)
theorem ok_X1_measureWheels_a0 (w0 : F1) (f0 : F1) (hk0 : kpOK w0) : kpOK (f_X1_measureWheels_a0 w0 f0) := by
  (try simp only [f_X1_measureWheels_a0]); exact (ok_X5_measure_h w0 f0 hk0)
theorem ok_X1_measureWheels_a1 (w1 : F1) (f1 : F1) (hk1 : kpOK w1) : kpOK (f_X1_measureWheels_a1 w1 f1) := by
  (try simp only [f_X1_measureWheels_a1]); exact (ok_X5_measure_h w1 f1 hk1)
theorem ok_X1_measureWheels_a2 (w2 : F1) (f2 : F1) (hk2 : kpOK w2) : kpOK (f_X1_measureWheels_a2 w2 f2) := by
  (try simp only [f_X1_measureWheels_a2]); exact (ok_X5_measure_h w2 f2 hk2)
theorem ok_X1_measureWheels_a3 (w3 : F1) (f3 : F1) (hk3 : kpOK w3) : kpOK (f_X1_measureWheels_a3 w3 f3) := by
  (try simp only [f_X1_measureWheels_a3]); exact (ok_X5_measure_h w3 f3 hk3)
set_option maxHeartbeats 4000000 in
set_option maxRecDepth 100000 in
theorem c_X1_measureWheels (l : Launch) (D : va_G) (ty : Nat → ClassId) (h : Nat) (aw : Nat) (al : Nat) (a0 : Nat) (a1 : Nat) (a2 : Nat) (a3 : Nat) (m0 : Nat) (m1 : Nat) (m2 : Nat) (m3 : Nat) (z : F1) (w0 : F1) (w1 : F1) (w2 : F1) (w3 : F1) (f0 : F1) (f1 : F1) (f2 : F1) (f3 : F1) (hk0 : kpOK w0) (hk1 : kpOK w1) (hk2 : kpOK w2) (hk3 : kpOK w3) : MC l D ty yX1_measureWheels cX1_measureWheels 2 none 3 [.ref h] [(h, ctE z aw al), (aw, waE ty a0 a1 a2 a3), (a0, whE w0 m0), (a1, whE w1 m1), (a2, whE w2 m2), (a3, whE w3 m3), (m0, arE ty 5 f0), (m1, arE ty 5 f1), (m2, arE ty 5 f2), (m3, arE ty 5 f3)] none [(h, ctE z aw al), (aw, waE ty a0 a1 a2 a3), (a0, whE (f_X1_measureWheels_a0 w0 f0) m0), (a1, whE (f_X1_measureWheels_a1 w1 f1) m1), (a2, whE (f_X1_measureWheels_a2 w2 f2) m2), (a3, whE (f_X1_measureWheels_a3 w3 f3) m3), (m0, arE ty 5 (f_X1_measureWheels_m0 w0 f0)), (m1, arE ty 5 (f_X1_measureWheels_m1 w1 f1)), (m2, arE ty 5 (f_X1_measureWheels_m2 w2 f2)), (m3, arE ty 5 (f_X1_measureWheels_m3 w3 f3))] := by
  refine mc_v (by decide +kernel) (Nat.le_of_ble_eq_true rfl) ?_
  intro p e s m args below meth c A Q ls C hK hA X hret hl
  have hx := C.1
  have hb := C.2.1
  have hl : lv_has ls 2 [(0, .ref h)] := hl
  have X : Wd D A s.heap [(h, ctE z aw al), (aw, waE ty a0 a1 a2 a3), (a0, whE w0 m0), (a1, whE w1 m1), (a2, whE w2 m2), (a3, whE w3 m3), (m0, arE ty 5 f0), (m1, arE ty 5 f1), (m2, arE ty 5 f2), (m3, arE ty 5 f3)] s.heap [] := X
  refine lv_iconst (v := 0) hx hb dX1_measureWheels_0 (by decide) ?_
  refine lv_istore_n (lv' := [(1, .int 0), (0, .ref h)]) hx hb dX1_measureWheels_1 rfl hl (by decide) rfl (fun ls hl => ?_)
  refine lv_iload_n hx hb dX1_measureWheels_2 rfl (lv_at hl 0 rfl) ?_
  refine lv_iconst (v := 4) hx hb dX1_measureWheels_3 (by decide) ?_
  refine lv_icmp_ge (tgt := 22) hx hb dX1_measureWheels_4 (by decide) (fun c0 => absurd c0 (by decide)) (fun _ => ?_)
  refine lv_aload_n hx hb dX1_measureWheels_7 rfl (lv_at hl 1 rfl) ?_
  refine get_ct_0 C hK X 0 rfl fl_X1_11 dX1_measureWheels_8 ?_
  refine lv_iload_n hx hb dX1_measureWheels_11 rfl (lv_at hl 0 rfl) ?_
  refine s_aald (t0 := 2) (b := a0) C hK X 1 rfl rfl (vp_in_nI (n := 0) (by decide) (by decide)) rfl dX1_measureWheels_12 ?_
  refine s_cVv (ws' := [(h, ctE z aw al), (aw, waE ty a0 a1 a2 a3), (a0, whE (f_X5_measure_h w0 f0) m0), (a1, whE w1 m1), (a2, whE w2 m2), (a3, whE w3 m3), (m0, arE ty 5 (f_X5_measure_am w0 f0)), (m1, arE ty 5 f1), (m2, arE ty 5 f2), (m3, arE ty 5 f3)]) C hK hA X (c_X5_measure l D ty a0 m0 w0 f0 hk0) [2, 6] (pk_c rfl (pk_c rfl pk_n)) rfl (pk_c rfl (pk_c rfl pk_n)) (em_f (em_f (em_t (em_f (em_f (em_f (em_t (em_f (em_f (em_f em_n)))))))))) rfl ml_X5_measure wm_X1_99 (q0 := 0) rfl rfl rfl ⟨Nat.le_of_ble_eq_true rfl, Nat.le_of_ble_eq_true rfl⟩ ⟨Nat.zero_le _, Nat.zero_le _⟩ hl.1 rfl (Nat.le_of_ble_eq_true rfl) dX1_measureWheels_13 (fun H locs X => ?_)
  refine lv_iinc (v := 1) (lv' := [(1, .int 1), (0, .ref h)]) hx hb dX1_measureWheels_16 hl (k := 0) rfl (by decide) (by decide) rfl (fun ls hl => ?_)
  refine lv_goto (tgt := 2) hx hb dX1_measureWheels_19 (by decide) ?_
  refine lv_iload_n hx hb dX1_measureWheels_2 rfl (lv_at hl 0 rfl) ?_
  refine lv_iconst (v := 4) hx hb dX1_measureWheels_3 (by decide) ?_
  refine lv_icmp_ge (tgt := 22) hx hb dX1_measureWheels_4 (by decide) (fun c0 => absurd c0 (by decide)) (fun _ => ?_)
  refine lv_aload_n hx hb dX1_measureWheels_7 rfl (lv_at hl 1 rfl) ?_
  refine get_ct_0 C hK X 0 rfl fl_X1_11 dX1_measureWheels_8 ?_
  refine lv_iload_n hx hb dX1_measureWheels_11 rfl (lv_at hl 0 rfl) ?_
  refine s_aald (t0 := 2) (b := a1) C hK X 1 rfl rfl (vp_in_nI (n := 1) (by decide) (by decide)) rfl dX1_measureWheels_12 ?_
  refine s_cVv (ws' := [(h, ctE z aw al), (aw, waE ty a0 a1 a2 a3), (a0, whE (f_X5_measure_h w0 f0) m0), (a1, whE (f_X5_measure_h w1 f1) m1), (a2, whE w2 m2), (a3, whE w3 m3), (m0, arE ty 5 (f_X5_measure_am w0 f0)), (m1, arE ty 5 (f_X5_measure_am w1 f1)), (m2, arE ty 5 f2), (m3, arE ty 5 f3)]) C hK hA X (c_X5_measure l D ty a1 m1 w1 f1 hk1) [3, 7] (pk_c rfl (pk_c rfl pk_n)) rfl (pk_c rfl (pk_c rfl pk_n)) (em_f (em_f (em_f (em_t (em_f (em_f (em_f (em_t (em_f (em_f em_n)))))))))) rfl ml_X5_measure wm_X1_99 (q0 := 0) rfl rfl rfl ⟨Nat.le_of_ble_eq_true rfl, Nat.le_of_ble_eq_true rfl⟩ ⟨Nat.zero_le _, Nat.zero_le _⟩ hl.1 rfl (Nat.le_of_ble_eq_true rfl) dX1_measureWheels_13 (fun H locs X => ?_)
  refine lv_iinc (v := 2) (lv' := [(1, .int 2), (0, .ref h)]) hx hb dX1_measureWheels_16 hl (k := 0) rfl (by decide) (by decide) rfl (fun ls hl => ?_)
  refine lv_goto (tgt := 2) hx hb dX1_measureWheels_19 (by decide) ?_
  refine lv_iload_n hx hb dX1_measureWheels_2 rfl (lv_at hl 0 rfl) ?_
  refine lv_iconst (v := 4) hx hb dX1_measureWheels_3 (by decide) ?_
  refine lv_icmp_ge (tgt := 22) hx hb dX1_measureWheels_4 (by decide) (fun c0 => absurd c0 (by decide)) (fun _ => ?_)
  refine lv_aload_n hx hb dX1_measureWheels_7 rfl (lv_at hl 1 rfl) ?_
  refine get_ct_0 C hK X 0 rfl fl_X1_11 dX1_measureWheels_8 ?_
  refine lv_iload_n hx hb dX1_measureWheels_11 rfl (lv_at hl 0 rfl) ?_
  refine s_aald (t0 := 2) (b := a2) C hK X 1 rfl rfl (vp_in_nI (n := 2) (by decide) (by decide)) rfl dX1_measureWheels_12 ?_
  refine s_cVv (ws' := [(h, ctE z aw al), (aw, waE ty a0 a1 a2 a3), (a0, whE (f_X5_measure_h w0 f0) m0), (a1, whE (f_X5_measure_h w1 f1) m1), (a2, whE (f_X5_measure_h w2 f2) m2), (a3, whE w3 m3), (m0, arE ty 5 (f_X5_measure_am w0 f0)), (m1, arE ty 5 (f_X5_measure_am w1 f1)), (m2, arE ty 5 (f_X5_measure_am w2 f2)), (m3, arE ty 5 f3)]) C hK hA X (c_X5_measure l D ty a2 m2 w2 f2 hk2) [4, 8] (pk_c rfl (pk_c rfl pk_n)) rfl (pk_c rfl (pk_c rfl pk_n)) (em_f (em_f (em_f (em_f (em_t (em_f (em_f (em_f (em_t (em_f em_n)))))))))) rfl ml_X5_measure wm_X1_99 (q0 := 0) rfl rfl rfl ⟨Nat.le_of_ble_eq_true rfl, Nat.le_of_ble_eq_true rfl⟩ ⟨Nat.zero_le _, Nat.zero_le _⟩ hl.1 rfl (Nat.le_of_ble_eq_true rfl) dX1_measureWheels_13 (fun H locs X => ?_)
  refine lv_iinc (v := 3) (lv' := [(1, .int 3), (0, .ref h)]) hx hb dX1_measureWheels_16 hl (k := 0) rfl (by decide) (by decide) rfl (fun ls hl => ?_)
  refine lv_goto (tgt := 2) hx hb dX1_measureWheels_19 (by decide) ?_
  refine lv_iload_n hx hb dX1_measureWheels_2 rfl (lv_at hl 0 rfl) ?_
  refine lv_iconst (v := 4) hx hb dX1_measureWheels_3 (by decide) ?_
  refine lv_icmp_ge (tgt := 22) hx hb dX1_measureWheels_4 (by decide) (fun c0 => absurd c0 (by decide)) (fun _ => ?_)
  refine lv_aload_n hx hb dX1_measureWheels_7 rfl (lv_at hl 1 rfl) ?_
  refine get_ct_0 C hK X 0 rfl fl_X1_11 dX1_measureWheels_8 ?_
  refine lv_iload_n hx hb dX1_measureWheels_11 rfl (lv_at hl 0 rfl) ?_
  refine s_aald (t0 := 2) (b := a3) C hK X 1 rfl rfl (vp_in_nI (n := 3) (by decide) (by decide)) rfl dX1_measureWheels_12 ?_
  refine s_cVv (ws' := [(h, ctE z aw al), (aw, waE ty a0 a1 a2 a3), (a0, whE (f_X5_measure_h w0 f0) m0), (a1, whE (f_X5_measure_h w1 f1) m1), (a2, whE (f_X5_measure_h w2 f2) m2), (a3, whE (f_X5_measure_h w3 f3) m3), (m0, arE ty 5 (f_X5_measure_am w0 f0)), (m1, arE ty 5 (f_X5_measure_am w1 f1)), (m2, arE ty 5 (f_X5_measure_am w2 f2)), (m3, arE ty 5 (f_X5_measure_am w3 f3))]) C hK hA X (c_X5_measure l D ty a3 m3 w3 f3 hk3) [5, 9] (pk_c rfl (pk_c rfl pk_n)) rfl (pk_c rfl (pk_c rfl pk_n)) (em_f (em_f (em_f (em_f (em_f (em_t (em_f (em_f (em_f (em_t em_n)))))))))) rfl ml_X5_measure wm_X1_99 (q0 := 0) rfl rfl rfl ⟨Nat.le_of_ble_eq_true rfl, Nat.le_of_ble_eq_true rfl⟩ ⟨Nat.zero_le _, Nat.zero_le _⟩ hl.1 rfl (Nat.le_of_ble_eq_true rfl) dX1_measureWheels_13 (fun H locs X => ?_)
  refine lv_iinc (v := 4) (lv' := [(1, .int 4), (0, .ref h)]) hx hb dX1_measureWheels_16 hl (k := 0) rfl (by decide) (by decide) rfl (fun ls hl => ?_)
  refine lv_goto (tgt := 2) hx hb dX1_measureWheels_19 (by decide) ?_
  refine lv_iload_n hx hb dX1_measureWheels_2 rfl (lv_at hl 0 rfl) ?_
  refine lv_iconst (v := 4) hx hb dX1_measureWheels_3 (by decide) ?_
  refine lv_icmp_ge (tgt := 22) hx hb dX1_measureWheels_4 (by decide) (fun _ => ?_) (fun c0 => absurd (by decide) c0)
  have e_2_0 : (f_X1_measureWheels_a0 w0 f0) = (f_X5_measure_h w0 f0) := by first | (rw [f_X1_measureWheels_a0]; done) | (rw [f_X1_measureWheels_a0]; rfl) | (simp only [f_X1_measureWheels_a0]; done)
  have e_3_0 : (f_X1_measureWheels_a1 w1 f1) = (f_X5_measure_h w1 f1) := by first | (rw [f_X1_measureWheels_a1]; done) | (rw [f_X1_measureWheels_a1]; rfl) | (simp only [f_X1_measureWheels_a1]; done)
  have e_4_0 : (f_X1_measureWheels_a2 w2 f2) = (f_X5_measure_h w2 f2) := by first | (rw [f_X1_measureWheels_a2]; done) | (rw [f_X1_measureWheels_a2]; rfl) | (simp only [f_X1_measureWheels_a2]; done)
  have e_5_0 : (f_X1_measureWheels_a3 w3 f3) = (f_X5_measure_h w3 f3) := by first | (rw [f_X1_measureWheels_a3]; done) | (rw [f_X1_measureWheels_a3]; rfl) | (simp only [f_X1_measureWheels_a3]; done)
  have e_6_1 : (f_X1_measureWheels_m0 w0 f0) = (f_X5_measure_am w0 f0) := by first | (rw [f_X1_measureWheels_m0]; done) | (rw [f_X1_measureWheels_m0]; rfl) | (simp only [f_X1_measureWheels_m0]; done)
  have e_7_1 : (f_X1_measureWheels_m1 w1 f1) = (f_X5_measure_am w1 f1) := by first | (rw [f_X1_measureWheels_m1]; done) | (rw [f_X1_measureWheels_m1]; rfl) | (simp only [f_X1_measureWheels_m1]; done)
  have e_8_1 : (f_X1_measureWheels_m2 w2 f2) = (f_X5_measure_am w2 f2) := by first | (rw [f_X1_measureWheels_m2]; done) | (rw [f_X1_measureWheels_m2]; rfl) | (simp only [f_X1_measureWheels_m2]; done)
  have e_9_1 : (f_X1_measureWheels_m3 w3 f3) = (f_X5_measure_am w3 f3) := by first | (rw [f_X1_measureWheels_m3]; done) | (rw [f_X1_measureWheels_m3]; rfl) | (simp only [f_X1_measureWheels_m3]; done)
  exact hret _ _ _ _ _ dX1_measureWheels_22 X (by rw [e_2_0, e_3_0, e_4_0, e_5_0, e_6_1, e_7_1, e_8_1, e_9_1])
def v_X1_followReference_1 (w0 : F1) (f0 : F1) : Int32 := (if (w0 7) = 0 then (mx 0 (f_X5_latest w0 f0)) else 0)
def v_X1_followReference_3 (w0 : F1) (w1 : F1) (f0 : F1) (f1 : F1) : Int32 := (if (w1 7) = 0 then (mx (v_X1_followReference_1 w0 f0) (f_X5_latest w1 f1)) else (v_X1_followReference_1 w0 f0))
def v_X1_followReference_5 (w0 : F1) (w1 : F1) (w2 : F1) (f0 : F1) (f1 : F1) (f2 : F1) : Int32 := (if (w2 7) = 0 then (mx (v_X1_followReference_3 w0 w1 f0 f1) (f_X5_latest w2 f2)) else (v_X1_followReference_3 w0 w1 f0 f1))
def v_X1_followReference_7 (w0 : F1) (w1 : F1) (w2 : F1) (w3 : F1) (f0 : F1) (f1 : F1) (f2 : F1) (f3 : F1) : Int32 := (if (w3 7) = 0 then (mx (v_X1_followReference_5 w0 w1 w2 f0 f1 f2) (f_X5_latest w3 f3)) else (v_X1_followReference_5 w0 w1 w2 f0 f1 f2))
def v_X1_followReference_9 (z : F1) (w0 : F1) (w1 : F1) (w2 : F1) (w3 : F1) (f0 : F1) (f1 : F1) (f2 : F1) (f3 : F1) : Int32 := (if (v_X1_followReference_7 w0 w1 w2 w3 f0 f1 f2 f3) < (z 0) then (mx (v_X1_followReference_7 w0 w1 w2 w3 f0 f1 f2 f3) ((z 0) - 120)) else (mn (v_X1_followReference_7 w0 w1 w2 w3 f0 f1 f2 f3) ((z 0) + 60)))
def f_X1_followReference_h (z : F1) (w0 : F1) (w1 : F1) (w2 : F1) (w3 : F1) (f0 : F1) (f1 : F1) (f2 : F1) (f3 : F1) : F1 := (upd z 0 (v_X1_followReference_9 z w0 w1 w2 w3 f0 f1 f2 f3))
set_option maxHeartbeats 4000000 in
set_option maxRecDepth 100000 in
theorem c_X1_followReference (l : Launch) (D : va_G) (ty : Nat → ClassId) (h : Nat) (aw : Nat) (al : Nat) (a0 : Nat) (a1 : Nat) (a2 : Nat) (a3 : Nat) (m0 : Nat) (m1 : Nat) (m2 : Nat) (m3 : Nat) (z : F1) (w0 : F1) (w1 : F1) (w2 : F1) (w3 : F1) (f0 : F1) (f1 : F1) (f2 : F1) (f3 : F1) (hk0 : kpOK w0) (hk1 : kpOK w1) (hk2 : kpOK w2) (hk3 : kpOK w3) : MC l D ty yX1_followReference cX1_followReference 3 none 1 [.ref h] [(h, ctE z aw al), (aw, waE ty a0 a1 a2 a3), (a0, whE w0 m0), (a1, whE w1 m1), (a2, whE w2 m2), (a3, whE w3 m3), (m0, arE ty 5 f0), (m1, arE ty 5 f1), (m2, arE ty 5 f2), (m3, arE ty 5 f3)] none [(h, ctE (f_X1_followReference_h z w0 w1 w2 w3 f0 f1 f2 f3) aw al), (aw, waE ty a0 a1 a2 a3), (a0, whE w0 m0), (a1, whE w1 m1), (a2, whE w2 m2), (a3, whE w3 m3), (m0, arE ty 5 f0), (m1, arE ty 5 f1), (m2, arE ty 5 f2), (m3, arE ty 5 f3)] := by
  refine mc_v (by decide +kernel) (Nat.le_of_ble_eq_true rfl) ?_
  intro p e s m args below meth c A Q ls C hK hA X hret hl
  have hx := C.1
  have hb := C.2.1
  have hl : lv_has ls 3 [(0, .ref h)] := hl
  have X : Wd D A s.heap [(h, ctE z aw al), (aw, waE ty a0 a1 a2 a3), (a0, whE w0 m0), (a1, whE w1 m1), (a2, whE w2 m2), (a3, whE w3 m3), (m0, arE ty 5 f0), (m1, arE ty 5 f1), (m2, arE ty 5 f2), (m3, arE ty 5 f3)] s.heap [] := X
  refine lv_iconst (v := 0) hx hb dX1_followReference_0 (by decide) ?_
  refine lv_istore_n (lv' := [(1, .int 0), (0, .ref h)]) hx hb dX1_followReference_1 rfl hl (by decide) rfl (fun ls hl => ?_)
  refine lv_iconst (v := 0) hx hb dX1_followReference_2 (by decide) ?_
  refine lv_istore_n (lv' := [(2, .int 0), (1, .int 0), (0, .ref h)]) hx hb dX1_followReference_3 rfl hl (by decide) rfl (fun ls hl => ?_)
  refine lv_iload_n hx hb dX1_followReference_4 rfl (lv_at hl 0 rfl) ?_
  refine lv_iconst (v := 4) hx hb dX1_followReference_5 (by decide) ?_
  refine lv_icmp_ge (tgt := 41) hx hb dX1_followReference_6 (by decide) (fun c0 => absurd c0 (by decide)) (fun _ => ?_)
  refine lv_aload_n hx hb dX1_followReference_9 rfl (lv_at hl 2 rfl) ?_
  refine get_ct_0 C hK X 0 rfl fl_X1_11 dX1_followReference_10 ?_
  refine lv_iload_n hx hb dX1_followReference_13 rfl (lv_at hl 0 rfl) ?_
  refine s_aald (t0 := 2) (b := a0) C hK X 1 rfl rfl (vp_in_nI (n := 0) (by decide) (by decide)) rfl dX1_followReference_14 ?_
  refine get_wh_8 C hK X 2 rfl fl_X1_93 dX1_followReference_15 ?_
  have J35_2 : ∀ (x1 : Int32) (ls : Array Slot) (H : Heap) (locs : List Loc), x1 = (v_X1_followReference_1 w0 f0) → lv_has ls 3 [(2, .int 0), (1, .int x1), (0, .ref h)] → Wd D A s.heap [(h, ctE z aw al), (aw, waE ty a0 a1 a2 a3), (a0, whE w0 m0), (a1, whE w1 m1), (a2, whE w2 m2), (a3, whE w3 m3), (m0, arE ty 5 f0), (m1, arE ty 5 f1), (m2, arE ty 5 f2), (m3, arE ty 5 f3)] H locs → W p l e (rmD 1) s m args below meth c H locs 0 0 Q (F0 m 35 ls []) := by
    intro x1 ls H locs ex1 hl X
    subst ex1
    refine lv_iinc (v := 1) (lv' := [(2, .int 1), (1, .int (v_X1_followReference_1 w0 f0)), (0, .ref h)]) hx hb dX1_followReference_35 hl (k := 0) rfl (by decide) (by decide) rfl (fun ls hl => ?_)
    refine lv_goto (tgt := 4) hx hb dX1_followReference_38 (by decide) ?_
    refine lv_iload_n hx hb dX1_followReference_4 rfl (lv_at hl 0 rfl) ?_
    refine lv_iconst (v := 4) hx hb dX1_followReference_5 (by decide) ?_
    refine lv_icmp_ge (tgt := 41) hx hb dX1_followReference_6 (by decide) (fun c0 => absurd c0 (by decide)) (fun _ => ?_)
    refine lv_aload_n hx hb dX1_followReference_9 rfl (lv_at hl 2 rfl) ?_
    refine get_ct_0 C hK X 0 rfl fl_X1_11 dX1_followReference_10 ?_
    refine lv_iload_n hx hb dX1_followReference_13 rfl (lv_at hl 0 rfl) ?_
    refine s_aald (t0 := 2) (b := a1) C hK X 1 rfl rfl (vp_in_nI (n := 1) (by decide) (by decide)) rfl dX1_followReference_14 ?_
    refine get_wh_8 C hK X 3 rfl fl_X1_93 dX1_followReference_15 ?_
    have J35_4 : ∀ (x3 : Int32) (ls : Array Slot) (H : Heap) (locs : List Loc), x3 = (v_X1_followReference_3 w0 w1 f0 f1) → lv_has ls 3 [(2, .int 1), (1, .int x3), (0, .ref h)] → Wd D A s.heap [(h, ctE z aw al), (aw, waE ty a0 a1 a2 a3), (a0, whE w0 m0), (a1, whE w1 m1), (a2, whE w2 m2), (a3, whE w3 m3), (m0, arE ty 5 f0), (m1, arE ty 5 f1), (m2, arE ty 5 f2), (m3, arE ty 5 f3)] H locs → W p l e (rmD 1) s m args below meth c H locs 0 0 Q (F0 m 35 ls []) := by
      intro x3 ls H locs ex3 hl X
      subst ex3
      refine lv_iinc (v := 2) (lv' := [(2, .int 2), (1, .int (v_X1_followReference_3 w0 w1 f0 f1)), (0, .ref h)]) hx hb dX1_followReference_35 hl (k := 0) rfl (by decide) (by decide) rfl (fun ls hl => ?_)
      refine lv_goto (tgt := 4) hx hb dX1_followReference_38 (by decide) ?_
      refine lv_iload_n hx hb dX1_followReference_4 rfl (lv_at hl 0 rfl) ?_
      refine lv_iconst (v := 4) hx hb dX1_followReference_5 (by decide) ?_
      refine lv_icmp_ge (tgt := 41) hx hb dX1_followReference_6 (by decide) (fun c0 => absurd c0 (by decide)) (fun _ => ?_)
      refine lv_aload_n hx hb dX1_followReference_9 rfl (lv_at hl 2 rfl) ?_
      refine get_ct_0 C hK X 0 rfl fl_X1_11 dX1_followReference_10 ?_
      refine lv_iload_n hx hb dX1_followReference_13 rfl (lv_at hl 0 rfl) ?_
      refine s_aald (t0 := 2) (b := a2) C hK X 1 rfl rfl (vp_in_nI (n := 2) (by decide) (by decide)) rfl dX1_followReference_14 ?_
      refine get_wh_8 C hK X 4 rfl fl_X1_93 dX1_followReference_15 ?_
      have J35_6 : ∀ (x5 : Int32) (ls : Array Slot) (H : Heap) (locs : List Loc), x5 = (v_X1_followReference_5 w0 w1 w2 f0 f1 f2) → lv_has ls 3 [(2, .int 2), (1, .int x5), (0, .ref h)] → Wd D A s.heap [(h, ctE z aw al), (aw, waE ty a0 a1 a2 a3), (a0, whE w0 m0), (a1, whE w1 m1), (a2, whE w2 m2), (a3, whE w3 m3), (m0, arE ty 5 f0), (m1, arE ty 5 f1), (m2, arE ty 5 f2), (m3, arE ty 5 f3)] H locs → W p l e (rmD 1) s m args below meth c H locs 0 0 Q (F0 m 35 ls []) := by
        intro x5 ls H locs ex5 hl X
        subst ex5
        refine lv_iinc (v := 3) (lv' := [(2, .int 3), (1, .int (v_X1_followReference_5 w0 w1 w2 f0 f1 f2)), (0, .ref h)]) hx hb dX1_followReference_35 hl (k := 0) rfl (by decide) (by decide) rfl (fun ls hl => ?_)
        refine lv_goto (tgt := 4) hx hb dX1_followReference_38 (by decide) ?_
        refine lv_iload_n hx hb dX1_followReference_4 rfl (lv_at hl 0 rfl) ?_
        refine lv_iconst (v := 4) hx hb dX1_followReference_5 (by decide) ?_
        refine lv_icmp_ge (tgt := 41) hx hb dX1_followReference_6 (by decide) (fun c0 => absurd c0 (by decide)) (fun _ => ?_)
        refine lv_aload_n hx hb dX1_followReference_9 rfl (lv_at hl 2 rfl) ?_
        refine get_ct_0 C hK X 0 rfl fl_X1_11 dX1_followReference_10 ?_
        refine lv_iload_n hx hb dX1_followReference_13 rfl (lv_at hl 0 rfl) ?_
        refine s_aald (t0 := 2) (b := a3) C hK X 1 rfl rfl (vp_in_nI (n := 3) (by decide) (by decide)) rfl dX1_followReference_14 ?_
        refine get_wh_8 C hK X 5 rfl fl_X1_93 dX1_followReference_15 ?_
        have J35_8 : ∀ (x7 : Int32) (ls : Array Slot) (H : Heap) (locs : List Loc), x7 = (v_X1_followReference_7 w0 w1 w2 w3 f0 f1 f2 f3) → lv_has ls 3 [(2, .int 3), (1, .int x7), (0, .ref h)] → Wd D A s.heap [(h, ctE z aw al), (aw, waE ty a0 a1 a2 a3), (a0, whE w0 m0), (a1, whE w1 m1), (a2, whE w2 m2), (a3, whE w3 m3), (m0, arE ty 5 f0), (m1, arE ty 5 f1), (m2, arE ty 5 f2), (m3, arE ty 5 f3)] H locs → W p l e (rmD 1) s m args below meth c H locs 0 0 Q (F0 m 35 ls []) := by
          intro x7 ls H locs ex7 hl X
          subst ex7
          refine lv_iinc (v := 4) (lv' := [(2, .int 4), (1, .int (v_X1_followReference_7 w0 w1 w2 w3 f0 f1 f2 f3)), (0, .ref h)]) hx hb dX1_followReference_35 hl (k := 0) rfl (by decide) (by decide) rfl (fun ls hl => ?_)
          refine lv_goto (tgt := 4) hx hb dX1_followReference_38 (by decide) ?_
          refine lv_iload_n hx hb dX1_followReference_4 rfl (lv_at hl 0 rfl) ?_
          refine lv_iconst (v := 4) hx hb dX1_followReference_5 (by decide) ?_
          refine lv_icmp_ge (tgt := 41) hx hb dX1_followReference_6 (by decide) (fun _ => ?_) (fun c0 => absurd (by decide) c0)
          refine lv_aload_n hx hb dX1_followReference_41 rfl (lv_at hl 2 rfl) ?_
          refine lv_iload_n hx hb dX1_followReference_42 rfl (lv_at hl 1 rfl) ?_
          refine lv_aload_n hx hb dX1_followReference_43 rfl (lv_at hl 2 rfl) ?_
          refine get_ct_3 C hK X 0 rfl fl_X1_42 dX1_followReference_44 ?_
          have J75_10 : ∀ (x9 : Int32) (ls : Array Slot) (H : Heap) (locs : List Loc), x9 = (v_X1_followReference_9 z w0 w1 w2 w3 f0 f1 f2 f3) → lv_has ls 3 [(2, .int 4), (1, .int (v_X1_followReference_7 w0 w1 w2 w3 f0 f1 f2 f3)), (0, .ref h)] → Wd D A s.heap [(h, ctE z aw al), (aw, waE ty a0 a1 a2 a3), (a0, whE w0 m0), (a1, whE w1 m1), (a2, whE w2 m2), (a3, whE w3 m3), (m0, arE ty 5 f0), (m1, arE ty 5 f1), (m2, arE ty 5 f2), (m3, arE ty 5 f3)] H locs → W p l e (rmD 1) s m args below meth c H locs 0 0 Q (F0 m 75 ls [.int x9, .ref h]) := by
            intro x9 ls H locs ex9 hl X
            subst ex9
            refine put_ct_3 C hK X 0 rfl pl_X1_42 dX1_followReference_75 (fun H locs X => ?_)
            have X : Wd D A s.heap [(h, ctE (upd z 0 (v_X1_followReference_9 z w0 w1 w2 w3 f0 f1 f2 f3)) aw al), (aw, waE ty a0 a1 a2 a3), (a0, whE w0 m0), (a1, whE w1 m1), (a2, whE w2 m2), (a3, whE w3 m3), (m0, arE ty 5 f0), (m1, arE ty 5 f1), (m2, arE ty 5 f2), (m3, arE ty 5 f3)] H locs := X
            have e_0_0 : (f_X1_followReference_h z w0 w1 w2 w3 f0 f1 f2 f3) = (upd z 0 (v_X1_followReference_9 z w0 w1 w2 w3 f0 f1 f2 f3)) := by first | (rw [f_X1_followReference_h]; done) | (rw [f_X1_followReference_h]; rfl) | (simp only [f_X1_followReference_h]; done)
            exact hret _ _ _ _ _ dX1_followReference_78 X (by rw [e_0_0])
          refine lv_icmp_lt (tgt := 64) hx hb dX1_followReference_47 (by decide) (fun c0_0 => ?_) (fun c0_0 => ?_)
          · refine lv_iload_n hx hb dX1_followReference_64 rfl (lv_at hl 1 rfl) ?_
            refine lv_aload_n hx hb dX1_followReference_65 rfl (lv_at hl 2 rfl) ?_
            refine get_ct_3 C hK X 0 rfl fl_X1_42 dX1_followReference_66 ?_
            refine lv_bipush (v := 120) hx hb dX1_followReference_69 (by decide) ?_
            refine lv_isub hx hb dX1_followReference_71 ?_
            refine s_mx C hl.1 wm_X1_105 (Nat.le_of_ble_eq_true rfl) (Nat.le_of_ble_eq_true rfl) ⟨Nat.zero_le _, Nat.zero_le _⟩ dX1_followReference_72 ?_
            exact J75_10 (mx (v_X1_followReference_7 w0 w1 w2 w3 f0 f1 f2 f3) ((z 0) - 120)) _ _ _ (by first | (rw [v_X1_followReference_9, if_pos c0_0]; done) | (rw [v_X1_followReference_9, if_pos c0_0]; rfl) | (simp only [v_X1_followReference_9, if_pos c0_0]; done)) (lv_sub hl [0, 1, 2] rfl) X
          · refine lv_iload_n hx hb dX1_followReference_50 rfl (lv_at hl 1 rfl) ?_
            refine lv_aload_n hx hb dX1_followReference_51 rfl (lv_at hl 2 rfl) ?_
            refine get_ct_3 C hK X 0 rfl fl_X1_42 dX1_followReference_52 ?_
            refine lv_bipush (v := 60) hx hb dX1_followReference_55 (by decide) ?_
            refine lv_iadd hx hb dX1_followReference_57 ?_
            refine s_mn C hl.1 wm_X1_111 (Nat.le_of_ble_eq_true rfl) (Nat.le_of_ble_eq_true rfl) ⟨Nat.zero_le _, Nat.zero_le _⟩ dX1_followReference_58 ?_
            refine lv_goto (tgt := 75) hx hb dX1_followReference_61 (by decide) ?_
            exact J75_10 (mn (v_X1_followReference_7 w0 w1 w2 w3 f0 f1 f2 f3) ((z 0) + 60)) _ _ _ (by first | (rw [v_X1_followReference_9, if_neg c0_0]; done) | (rw [v_X1_followReference_9, if_neg c0_0]; rfl) | (simp only [v_X1_followReference_9, if_neg c0_0]; done)) (lv_sub hl [0, 1, 2] rfl) X
        refine lv_if_ne (tgt := 35) hx hb dX1_followReference_18 (by decide) (fun c0_0 => ?_) (fun c0_0 => ?_)
        · exact J35_8 (v_X1_followReference_5 w0 w1 w2 f0 f1 f2) _ _ _ (by first | (rw [v_X1_followReference_7, if_neg c0_0]; done) | (rw [v_X1_followReference_7, if_neg c0_0]; rfl) | (simp only [v_X1_followReference_7, if_neg c0_0]; done)) (lv_sub hl [0, 1, 2] rfl) X
        · refine lv_iload_n hx hb dX1_followReference_21 rfl (lv_at hl 1 rfl) ?_
          refine lv_aload_n hx hb dX1_followReference_22 rfl (lv_at hl 2 rfl) ?_
          refine get_ct_0 C hK X 0 rfl fl_X1_11 dX1_followReference_23 ?_
          refine lv_iload_n hx hb dX1_followReference_26 rfl (lv_at hl 0 rfl) ?_
          refine s_aald (t0 := 2) (b := a3) C hK X 1 rfl rfl (vp_in_nI (n := 3) (by decide) (by decide)) rfl dX1_followReference_27 ?_
          refine s_cV0i C hK hA X (c_X5_latest l D ty a3 m3 w3 f3 hk3) [5, 9] (pk_c rfl (pk_c rfl pk_n)) rfl ml_X5_latest wm_X1_102 (q0 := 0) rfl rfl rfl ⟨Nat.le_of_ble_eq_true rfl, Nat.le_of_ble_eq_true rfl⟩ ⟨Nat.zero_le _, Nat.zero_le _⟩ hl.1 rfl (Nat.le_of_ble_eq_true rfl) dX1_followReference_28 (fun H locs X => ?_)
          refine s_mx C hl.1 wm_X1_105 (Nat.le_of_ble_eq_true rfl) (Nat.le_of_ble_eq_true rfl) ⟨Nat.zero_le _, Nat.zero_le _⟩ dX1_followReference_31 ?_
          refine lv_istore_n (lv' := [(1, .int (mx (v_X1_followReference_5 w0 w1 w2 f0 f1 f2) (f_X5_latest w3 f3))), (2, .int 3), (0, .ref h)]) hx hb dX1_followReference_34 rfl hl (by decide) rfl (fun ls hl => ?_)
          exact J35_8 (mx (v_X1_followReference_5 w0 w1 w2 f0 f1 f2) (f_X5_latest w3 f3)) _ _ _ (by first | (rw [v_X1_followReference_7, if_pos c0_0]; done) | (rw [v_X1_followReference_7, if_pos c0_0]; rfl) | (simp only [v_X1_followReference_7, if_pos c0_0]; done)) (lv_sub hl [1, 0, 2] rfl) X
      refine lv_if_ne (tgt := 35) hx hb dX1_followReference_18 (by decide) (fun c0_0 => ?_) (fun c0_0 => ?_)
      · exact J35_6 (v_X1_followReference_3 w0 w1 f0 f1) _ _ _ (by first | (rw [v_X1_followReference_5, if_neg c0_0]; done) | (rw [v_X1_followReference_5, if_neg c0_0]; rfl) | (simp only [v_X1_followReference_5, if_neg c0_0]; done)) (lv_sub hl [0, 1, 2] rfl) X
      · refine lv_iload_n hx hb dX1_followReference_21 rfl (lv_at hl 1 rfl) ?_
        refine lv_aload_n hx hb dX1_followReference_22 rfl (lv_at hl 2 rfl) ?_
        refine get_ct_0 C hK X 0 rfl fl_X1_11 dX1_followReference_23 ?_
        refine lv_iload_n hx hb dX1_followReference_26 rfl (lv_at hl 0 rfl) ?_
        refine s_aald (t0 := 2) (b := a2) C hK X 1 rfl rfl (vp_in_nI (n := 2) (by decide) (by decide)) rfl dX1_followReference_27 ?_
        refine s_cV0i C hK hA X (c_X5_latest l D ty a2 m2 w2 f2 hk2) [4, 8] (pk_c rfl (pk_c rfl pk_n)) rfl ml_X5_latest wm_X1_102 (q0 := 0) rfl rfl rfl ⟨Nat.le_of_ble_eq_true rfl, Nat.le_of_ble_eq_true rfl⟩ ⟨Nat.zero_le _, Nat.zero_le _⟩ hl.1 rfl (Nat.le_of_ble_eq_true rfl) dX1_followReference_28 (fun H locs X => ?_)
        refine s_mx C hl.1 wm_X1_105 (Nat.le_of_ble_eq_true rfl) (Nat.le_of_ble_eq_true rfl) ⟨Nat.zero_le _, Nat.zero_le _⟩ dX1_followReference_31 ?_
        refine lv_istore_n (lv' := [(1, .int (mx (v_X1_followReference_3 w0 w1 f0 f1) (f_X5_latest w2 f2))), (2, .int 2), (0, .ref h)]) hx hb dX1_followReference_34 rfl hl (by decide) rfl (fun ls hl => ?_)
        exact J35_6 (mx (v_X1_followReference_3 w0 w1 f0 f1) (f_X5_latest w2 f2)) _ _ _ (by first | (rw [v_X1_followReference_5, if_pos c0_0]; done) | (rw [v_X1_followReference_5, if_pos c0_0]; rfl) | (simp only [v_X1_followReference_5, if_pos c0_0]; done)) (lv_sub hl [1, 0, 2] rfl) X
    refine lv_if_ne (tgt := 35) hx hb dX1_followReference_18 (by decide) (fun c0_0 => ?_) (fun c0_0 => ?_)
    · exact J35_4 (v_X1_followReference_1 w0 f0) _ _ _ (by first | (rw [v_X1_followReference_3, if_neg c0_0]; done) | (rw [v_X1_followReference_3, if_neg c0_0]; rfl) | (simp only [v_X1_followReference_3, if_neg c0_0]; done)) (lv_sub hl [0, 1, 2] rfl) X
    · refine lv_iload_n hx hb dX1_followReference_21 rfl (lv_at hl 1 rfl) ?_
      refine lv_aload_n hx hb dX1_followReference_22 rfl (lv_at hl 2 rfl) ?_
      refine get_ct_0 C hK X 0 rfl fl_X1_11 dX1_followReference_23 ?_
      refine lv_iload_n hx hb dX1_followReference_26 rfl (lv_at hl 0 rfl) ?_
      refine s_aald (t0 := 2) (b := a1) C hK X 1 rfl rfl (vp_in_nI (n := 1) (by decide) (by decide)) rfl dX1_followReference_27 ?_
      refine s_cV0i C hK hA X (c_X5_latest l D ty a1 m1 w1 f1 hk1) [3, 7] (pk_c rfl (pk_c rfl pk_n)) rfl ml_X5_latest wm_X1_102 (q0 := 0) rfl rfl rfl ⟨Nat.le_of_ble_eq_true rfl, Nat.le_of_ble_eq_true rfl⟩ ⟨Nat.zero_le _, Nat.zero_le _⟩ hl.1 rfl (Nat.le_of_ble_eq_true rfl) dX1_followReference_28 (fun H locs X => ?_)
      refine s_mx C hl.1 wm_X1_105 (Nat.le_of_ble_eq_true rfl) (Nat.le_of_ble_eq_true rfl) ⟨Nat.zero_le _, Nat.zero_le _⟩ dX1_followReference_31 ?_
      refine lv_istore_n (lv' := [(1, .int (mx (v_X1_followReference_1 w0 f0) (f_X5_latest w1 f1))), (2, .int 1), (0, .ref h)]) hx hb dX1_followReference_34 rfl hl (by decide) rfl (fun ls hl => ?_)
      exact J35_4 (mx (v_X1_followReference_1 w0 f0) (f_X5_latest w1 f1)) _ _ _ (by first | (rw [v_X1_followReference_3, if_pos c0_0]; done) | (rw [v_X1_followReference_3, if_pos c0_0]; rfl) | (simp only [v_X1_followReference_3, if_pos c0_0]; done)) (lv_sub hl [1, 0, 2] rfl) X
  refine lv_if_ne (tgt := 35) hx hb dX1_followReference_18 (by decide) (fun c0_0 => ?_) (fun c0_0 => ?_)
  · exact J35_2 0 _ _ _ (by first | (rw [v_X1_followReference_1, if_neg c0_0]; done) | (rw [v_X1_followReference_1, if_neg c0_0]; rfl) | (simp only [v_X1_followReference_1, if_neg c0_0]; done)) (lv_sub hl [0, 1, 2] rfl) X
  · refine lv_iload_n hx hb dX1_followReference_21 rfl (lv_at hl 1 rfl) ?_
    refine lv_aload_n hx hb dX1_followReference_22 rfl (lv_at hl 2 rfl) ?_
    refine get_ct_0 C hK X 0 rfl fl_X1_11 dX1_followReference_23 ?_
    refine lv_iload_n hx hb dX1_followReference_26 rfl (lv_at hl 0 rfl) ?_
    refine s_aald (t0 := 2) (b := a0) C hK X 1 rfl rfl (vp_in_nI (n := 0) (by decide) (by decide)) rfl dX1_followReference_27 ?_
    refine s_cV0i C hK hA X (c_X5_latest l D ty a0 m0 w0 f0 hk0) [2, 6] (pk_c rfl (pk_c rfl pk_n)) rfl ml_X5_latest wm_X1_102 (q0 := 0) rfl rfl rfl ⟨Nat.le_of_ble_eq_true rfl, Nat.le_of_ble_eq_true rfl⟩ ⟨Nat.zero_le _, Nat.zero_le _⟩ hl.1 rfl (Nat.le_of_ble_eq_true rfl) dX1_followReference_28 (fun H locs X => ?_)
    refine s_mx C hl.1 wm_X1_105 (Nat.le_of_ble_eq_true rfl) (Nat.le_of_ble_eq_true rfl) ⟨Nat.zero_le _, Nat.zero_le _⟩ dX1_followReference_31 ?_
    refine lv_istore_n (lv' := [(1, .int (mx 0 (f_X5_latest w0 f0))), (2, .int 0), (0, .ref h)]) hx hb dX1_followReference_34 rfl hl (by decide) rfl (fun ls hl => ?_)
    exact J35_2 (mx 0 (f_X5_latest w0 f0)) _ _ _ (by first | (rw [v_X1_followReference_1, if_pos c0_0]; done) | (rw [v_X1_followReference_1, if_pos c0_0]; rfl) | (simp only [v_X1_followReference_1, if_pos c0_0]; done)) (lv_sub hl [1, 0, 2] rfl) X
def f_X1_estimateSlips_a0 (z : F1) (w0 : F1) (f0 : F1) : F1 := (f_X5_estimateSlip_h w0 f0 (z 0))
def f_X1_estimateSlips_a1 (z : F1) (w1 : F1) (f1 : F1) : F1 := (f_X5_estimateSlip_h w1 f1 (z 0))
def f_X1_estimateSlips_a2 (z : F1) (w2 : F1) (f2 : F1) : F1 := (f_X5_estimateSlip_h w2 f2 (z 0))
def f_X1_estimateSlips_a3 (z : F1) (w3 : F1) (f3 : F1) : F1 := (f_X5_estimateSlip_h w3 f3 (z 0))
theorem ok_X1_estimateSlips_a0 (z : F1) (w0 : F1) (f0 : F1) (hk0 : kpOK w0) : kpOK (f_X1_estimateSlips_a0 z w0 f0) := by
  (try simp only [f_X1_estimateSlips_a0]); exact (ok_X5_estimateSlip_h w0 f0 (z 0) hk0)
theorem ok_X1_estimateSlips_a1 (z : F1) (w1 : F1) (f1 : F1) (hk1 : kpOK w1) : kpOK (f_X1_estimateSlips_a1 z w1 f1) := by
  (try simp only [f_X1_estimateSlips_a1]); exact (ok_X5_estimateSlip_h w1 f1 (z 0) hk1)
theorem ok_X1_estimateSlips_a2 (z : F1) (w2 : F1) (f2 : F1) (hk2 : kpOK w2) : kpOK (f_X1_estimateSlips_a2 z w2 f2) := by
  (try simp only [f_X1_estimateSlips_a2]); exact (ok_X5_estimateSlip_h w2 f2 (z 0) hk2)
theorem ok_X1_estimateSlips_a3 (z : F1) (w3 : F1) (f3 : F1) (hk3 : kpOK w3) : kpOK (f_X1_estimateSlips_a3 z w3 f3) := by
  (try simp only [f_X1_estimateSlips_a3]); exact (ok_X5_estimateSlip_h w3 f3 (z 0) hk3)
set_option maxHeartbeats 4000000 in
set_option maxRecDepth 100000 in
theorem c_X1_estimateSlips (l : Launch) (D : va_G) (ty : Nat → ClassId) (h : Nat) (aw : Nat) (al : Nat) (a0 : Nat) (a1 : Nat) (a2 : Nat) (a3 : Nat) (m0 : Nat) (m1 : Nat) (m2 : Nat) (m3 : Nat) (z : F1) (w0 : F1) (w1 : F1) (w2 : F1) (w3 : F1) (f0 : F1) (f1 : F1) (f2 : F1) (f3 : F1) (hk0 : kpOK w0) (hk1 : kpOK w1) (hk2 : kpOK w2) (hk3 : kpOK w3) : MC l D ty yX1_estimateSlips cX1_estimateSlips 2 none 2 [.ref h] [(h, ctE z aw al), (aw, waE ty a0 a1 a2 a3), (a0, whE w0 m0), (a1, whE w1 m1), (a2, whE w2 m2), (a3, whE w3 m3), (m0, arE ty 5 f0), (m1, arE ty 5 f1), (m2, arE ty 5 f2), (m3, arE ty 5 f3)] none [(h, ctE z aw al), (aw, waE ty a0 a1 a2 a3), (a0, whE (f_X1_estimateSlips_a0 z w0 f0) m0), (a1, whE (f_X1_estimateSlips_a1 z w1 f1) m1), (a2, whE (f_X1_estimateSlips_a2 z w2 f2) m2), (a3, whE (f_X1_estimateSlips_a3 z w3 f3) m3), (m0, arE ty 5 f0), (m1, arE ty 5 f1), (m2, arE ty 5 f2), (m3, arE ty 5 f3)] := by
  refine mc_v (by decide +kernel) (Nat.le_of_ble_eq_true rfl) ?_
  intro p e s m args below meth c A Q ls C hK hA X hret hl
  have hx := C.1
  have hb := C.2.1
  have hl : lv_has ls 2 [(0, .ref h)] := hl
  have X : Wd D A s.heap [(h, ctE z aw al), (aw, waE ty a0 a1 a2 a3), (a0, whE w0 m0), (a1, whE w1 m1), (a2, whE w2 m2), (a3, whE w3 m3), (m0, arE ty 5 f0), (m1, arE ty 5 f1), (m2, arE ty 5 f2), (m3, arE ty 5 f3)] s.heap [] := X
  refine lv_iconst (v := 0) hx hb dX1_estimateSlips_0 (by decide) ?_
  refine lv_istore_n (lv' := [(1, .int 0), (0, .ref h)]) hx hb dX1_estimateSlips_1 rfl hl (by decide) rfl (fun ls hl => ?_)
  refine lv_iload_n hx hb dX1_estimateSlips_2 rfl (lv_at hl 0 rfl) ?_
  refine lv_iconst (v := 4) hx hb dX1_estimateSlips_3 (by decide) ?_
  refine lv_icmp_ge (tgt := 26) hx hb dX1_estimateSlips_4 (by decide) (fun c0 => absurd c0 (by decide)) (fun _ => ?_)
  refine lv_aload_n hx hb dX1_estimateSlips_7 rfl (lv_at hl 1 rfl) ?_
  refine get_ct_0 C hK X 0 rfl fl_X1_11 dX1_estimateSlips_8 ?_
  refine lv_iload_n hx hb dX1_estimateSlips_11 rfl (lv_at hl 0 rfl) ?_
  refine s_aald (t0 := 2) (b := a0) C hK X 1 rfl rfl (vp_in_nI (n := 0) (by decide) (by decide)) rfl dX1_estimateSlips_12 ?_
  refine lv_aload_n hx hb dX1_estimateSlips_13 rfl (lv_at hl 1 rfl) ?_
  refine get_ct_3 C hK X 0 rfl fl_X1_42 dX1_estimateSlips_14 ?_
  refine s_cVv (ws' := [(h, ctE z aw al), (aw, waE ty a0 a1 a2 a3), (a0, whE (f_X5_estimateSlip_h w0 f0 (z 0)) m0), (a1, whE w1 m1), (a2, whE w2 m2), (a3, whE w3 m3), (m0, arE ty 5 f0), (m1, arE ty 5 f1), (m2, arE ty 5 f2), (m3, arE ty 5 f3)]) C hK hA X (c_X5_estimateSlip l D ty a0 m0 w0 f0 (z 0) hk0) [2, 6] (pk_c rfl (pk_c rfl pk_n)) rfl (pk_c rfl (pk_c rfl pk_n)) (em_f (em_f (em_t (em_f (em_f (em_f (em_t (em_f (em_f (em_f em_n)))))))))) rfl ml_X5_estimateSlip wm_X1_114 (q0 := 0) rfl rfl rfl ⟨Nat.le_of_ble_eq_true rfl, Nat.le_of_ble_eq_true rfl⟩ ⟨Nat.zero_le _, Nat.zero_le _⟩ hl.1 rfl (Nat.le_of_ble_eq_true rfl) dX1_estimateSlips_17 (fun H locs X => ?_)
  refine lv_iinc (v := 1) (lv' := [(1, .int 1), (0, .ref h)]) hx hb dX1_estimateSlips_20 hl (k := 0) rfl (by decide) (by decide) rfl (fun ls hl => ?_)
  refine lv_goto (tgt := 2) hx hb dX1_estimateSlips_23 (by decide) ?_
  refine lv_iload_n hx hb dX1_estimateSlips_2 rfl (lv_at hl 0 rfl) ?_
  refine lv_iconst (v := 4) hx hb dX1_estimateSlips_3 (by decide) ?_
  refine lv_icmp_ge (tgt := 26) hx hb dX1_estimateSlips_4 (by decide) (fun c0 => absurd c0 (by decide)) (fun _ => ?_)
  refine lv_aload_n hx hb dX1_estimateSlips_7 rfl (lv_at hl 1 rfl) ?_
  refine get_ct_0 C hK X 0 rfl fl_X1_11 dX1_estimateSlips_8 ?_
  refine lv_iload_n hx hb dX1_estimateSlips_11 rfl (lv_at hl 0 rfl) ?_
  refine s_aald (t0 := 2) (b := a1) C hK X 1 rfl rfl (vp_in_nI (n := 1) (by decide) (by decide)) rfl dX1_estimateSlips_12 ?_
  refine lv_aload_n hx hb dX1_estimateSlips_13 rfl (lv_at hl 1 rfl) ?_
  refine get_ct_3 C hK X 0 rfl fl_X1_42 dX1_estimateSlips_14 ?_
  refine s_cVv (ws' := [(h, ctE z aw al), (aw, waE ty a0 a1 a2 a3), (a0, whE (f_X5_estimateSlip_h w0 f0 (z 0)) m0), (a1, whE (f_X5_estimateSlip_h w1 f1 (z 0)) m1), (a2, whE w2 m2), (a3, whE w3 m3), (m0, arE ty 5 f0), (m1, arE ty 5 f1), (m2, arE ty 5 f2), (m3, arE ty 5 f3)]) C hK hA X (c_X5_estimateSlip l D ty a1 m1 w1 f1 (z 0) hk1) [3, 7] (pk_c rfl (pk_c rfl pk_n)) rfl (pk_c rfl (pk_c rfl pk_n)) (em_f (em_f (em_f (em_t (em_f (em_f (em_f (em_t (em_f (em_f em_n)))))))))) rfl ml_X5_estimateSlip wm_X1_114 (q0 := 0) rfl rfl rfl ⟨Nat.le_of_ble_eq_true rfl, Nat.le_of_ble_eq_true rfl⟩ ⟨Nat.zero_le _, Nat.zero_le _⟩ hl.1 rfl (Nat.le_of_ble_eq_true rfl) dX1_estimateSlips_17 (fun H locs X => ?_)
  refine lv_iinc (v := 2) (lv' := [(1, .int 2), (0, .ref h)]) hx hb dX1_estimateSlips_20 hl (k := 0) rfl (by decide) (by decide) rfl (fun ls hl => ?_)
  refine lv_goto (tgt := 2) hx hb dX1_estimateSlips_23 (by decide) ?_
  refine lv_iload_n hx hb dX1_estimateSlips_2 rfl (lv_at hl 0 rfl) ?_
  refine lv_iconst (v := 4) hx hb dX1_estimateSlips_3 (by decide) ?_
  refine lv_icmp_ge (tgt := 26) hx hb dX1_estimateSlips_4 (by decide) (fun c0 => absurd c0 (by decide)) (fun _ => ?_)
  refine lv_aload_n hx hb dX1_estimateSlips_7 rfl (lv_at hl 1 rfl) ?_
  refine get_ct_0 C hK X 0 rfl fl_X1_11 dX1_estimateSlips_8 ?_
  refine lv_iload_n hx hb dX1_estimateSlips_11 rfl (lv_at hl 0 rfl) ?_
  refine s_aald (t0 := 2) (b := a2) C hK X 1 rfl rfl (vp_in_nI (n := 2) (by decide) (by decide)) rfl dX1_estimateSlips_12 ?_
  refine lv_aload_n hx hb dX1_estimateSlips_13 rfl (lv_at hl 1 rfl) ?_
  refine get_ct_3 C hK X 0 rfl fl_X1_42 dX1_estimateSlips_14 ?_
  refine s_cVv (ws' := [(h, ctE z aw al), (aw, waE ty a0 a1 a2 a3), (a0, whE (f_X5_estimateSlip_h w0 f0 (z 0)) m0), (a1, whE (f_X5_estimateSlip_h w1 f1 (z 0)) m1), (a2, whE (f_X5_estimateSlip_h w2 f2 (z 0)) m2), (a3, whE w3 m3), (m0, arE ty 5 f0), (m1, arE ty 5 f1), (m2, arE ty 5 f2), (m3, arE ty 5 f3)]) C hK hA X (c_X5_estimateSlip l D ty a2 m2 w2 f2 (z 0) hk2) [4, 8] (pk_c rfl (pk_c rfl pk_n)) rfl (pk_c rfl (pk_c rfl pk_n)) (em_f (em_f (em_f (em_f (em_t (em_f (em_f (em_f (em_t (em_f em_n)))))))))) rfl ml_X5_estimateSlip wm_X1_114 (q0 := 0) rfl rfl rfl ⟨Nat.le_of_ble_eq_true rfl, Nat.le_of_ble_eq_true rfl⟩ ⟨Nat.zero_le _, Nat.zero_le _⟩ hl.1 rfl (Nat.le_of_ble_eq_true rfl) dX1_estimateSlips_17 (fun H locs X => ?_)
  refine lv_iinc (v := 3) (lv' := [(1, .int 3), (0, .ref h)]) hx hb dX1_estimateSlips_20 hl (k := 0) rfl (by decide) (by decide) rfl (fun ls hl => ?_)
  refine lv_goto (tgt := 2) hx hb dX1_estimateSlips_23 (by decide) ?_
  refine lv_iload_n hx hb dX1_estimateSlips_2 rfl (lv_at hl 0 rfl) ?_
  refine lv_iconst (v := 4) hx hb dX1_estimateSlips_3 (by decide) ?_
  refine lv_icmp_ge (tgt := 26) hx hb dX1_estimateSlips_4 (by decide) (fun c0 => absurd c0 (by decide)) (fun _ => ?_)
  refine lv_aload_n hx hb dX1_estimateSlips_7 rfl (lv_at hl 1 rfl) ?_
  refine get_ct_0 C hK X 0 rfl fl_X1_11 dX1_estimateSlips_8 ?_
  refine lv_iload_n hx hb dX1_estimateSlips_11 rfl (lv_at hl 0 rfl) ?_
  refine s_aald (t0 := 2) (b := a3) C hK X 1 rfl rfl (vp_in_nI (n := 3) (by decide) (by decide)) rfl dX1_estimateSlips_12 ?_
  refine lv_aload_n hx hb dX1_estimateSlips_13 rfl (lv_at hl 1 rfl) ?_
  refine get_ct_3 C hK X 0 rfl fl_X1_42 dX1_estimateSlips_14 ?_
  refine s_cVv (ws' := [(h, ctE z aw al), (aw, waE ty a0 a1 a2 a3), (a0, whE (f_X5_estimateSlip_h w0 f0 (z 0)) m0), (a1, whE (f_X5_estimateSlip_h w1 f1 (z 0)) m1), (a2, whE (f_X5_estimateSlip_h w2 f2 (z 0)) m2), (a3, whE (f_X5_estimateSlip_h w3 f3 (z 0)) m3), (m0, arE ty 5 f0), (m1, arE ty 5 f1), (m2, arE ty 5 f2), (m3, arE ty 5 f3)]) C hK hA X (c_X5_estimateSlip l D ty a3 m3 w3 f3 (z 0) hk3) [5, 9] (pk_c rfl (pk_c rfl pk_n)) rfl (pk_c rfl (pk_c rfl pk_n)) (em_f (em_f (em_f (em_f (em_f (em_t (em_f (em_f (em_f (em_t em_n)))))))))) rfl ml_X5_estimateSlip wm_X1_114 (q0 := 0) rfl rfl rfl ⟨Nat.le_of_ble_eq_true rfl, Nat.le_of_ble_eq_true rfl⟩ ⟨Nat.zero_le _, Nat.zero_le _⟩ hl.1 rfl (Nat.le_of_ble_eq_true rfl) dX1_estimateSlips_17 (fun H locs X => ?_)
  refine lv_iinc (v := 4) (lv' := [(1, .int 4), (0, .ref h)]) hx hb dX1_estimateSlips_20 hl (k := 0) rfl (by decide) (by decide) rfl (fun ls hl => ?_)
  refine lv_goto (tgt := 2) hx hb dX1_estimateSlips_23 (by decide) ?_
  refine lv_iload_n hx hb dX1_estimateSlips_2 rfl (lv_at hl 0 rfl) ?_
  refine lv_iconst (v := 4) hx hb dX1_estimateSlips_3 (by decide) ?_
  refine lv_icmp_ge (tgt := 26) hx hb dX1_estimateSlips_4 (by decide) (fun _ => ?_) (fun c0 => absurd (by decide) c0)
  have e_2_0 : (f_X1_estimateSlips_a0 z w0 f0) = (f_X5_estimateSlip_h w0 f0 (z 0)) := by first | (rw [f_X1_estimateSlips_a0]; done) | (rw [f_X1_estimateSlips_a0]; rfl) | (simp only [f_X1_estimateSlips_a0]; done)
  have e_3_0 : (f_X1_estimateSlips_a1 z w1 f1) = (f_X5_estimateSlip_h w1 f1 (z 0)) := by first | (rw [f_X1_estimateSlips_a1]; done) | (rw [f_X1_estimateSlips_a1]; rfl) | (simp only [f_X1_estimateSlips_a1]; done)
  have e_4_0 : (f_X1_estimateSlips_a2 z w2 f2) = (f_X5_estimateSlip_h w2 f2 (z 0)) := by first | (rw [f_X1_estimateSlips_a2]; done) | (rw [f_X1_estimateSlips_a2]; rfl) | (simp only [f_X1_estimateSlips_a2]; done)
  have e_5_0 : (f_X1_estimateSlips_a3 z w3 f3) = (f_X5_estimateSlip_h w3 f3 (z 0)) := by first | (rw [f_X1_estimateSlips_a3]; done) | (rw [f_X1_estimateSlips_a3]; rfl) | (simp only [f_X1_estimateSlips_a3]; done)
  exact hret _ _ _ _ _ dX1_estimateSlips_26 X (by rw [e_2_0, e_3_0, e_4_0, e_5_0])
def v_X1_suspect_0_1 (z : F1) (w0 : F1) (f0 : F1) : Int32 := (if (f_X5_latest w0 f0) = 0 then (if (z 0) < 3000 then 0 else 1) else 0)
def v_X1_suspect_0_3 (z : F1) (w0 : F1) (f0 : F1) : Int32 := (if (v_X1_suspect_0_1 z w0 f0) = 0 then 0 else ((w0 8) + 1))
def f_X1_suspect_0_a0 (z : F1) (w0 : F1) (f0 : F1) : F1 := (if (v_X1_suspect_0_3 z w0 f0) = 25 then (upd (upd w0 8 (v_X1_suspect_0_3 z w0 f0)) 7 1) else (upd w0 8 (v_X1_suspect_0_3 z w0 f0)))
def f_X1_suspect_0_al_fi (fi : Nat) (lc : Nat) (z : F1) (w0 : F1) (f0 : F1) : Nat := (if (v_X1_suspect_0_3 z w0 f0) = 25 then (f_X2_add_h_fi fi lc) else fi)
def f_X1_suspect_0_al_lc (lc : Nat) (z : F1) (w0 : F1) (f0 : F1) : Nat := (if (v_X1_suspect_0_3 z w0 f0) = 25 then (f_X2_add_h_lc lc) else lc)
def f_X1_suspect_0_t (fi : Nat) (lc : Nat) (z : F1) (w0 : F1) (f0 : F1) (lt : F1) (T : Int32) : F1 := (if (v_X1_suspect_0_3 z w0 f0) = 25 then (f_X2_add_t fi lc lt T) else lt)
def f_X1_suspect_0_k (fi : Nat) (lc : Nat) (z : F1) (w0 : F1) (f0 : F1) (lk : F1) : F1 := (if (v_X1_suspect_0_3 z w0 f0) = 25 then (f_X2_add_k fi lc lk 1) else lk)
def f_X1_suspect_0_v (fi : Nat) (lc : Nat) (z : F1) (w0 : F1) (f0 : F1) (lv : F1) : F1 := (if (v_X1_suspect_0_3 z w0 f0) = 25 then (f_X2_add_v fi lc lv 0) else lv)
theorem ok_X1_suspect_0_a0 (z : F1) (w0 : F1) (f0 : F1) (hk0 : kpOK w0) : kpOK (f_X1_suspect_0_a0 z w0 f0) := by
  by_cases k0 : (v_X1_suspect_0_3 z w0 f0) = 25
  · (try simp only [f_X1_suspect_0_a0, if_pos k0]); exact (kp_upd (kp_upd hk0))
  · (try simp only [f_X1_suspect_0_a0, if_neg k0]); exact (kp_upd hk0)
theorem ok_X1_suspect_0_al (fi : Nat) (lc : Nat) (z : F1) (w0 : F1) (f0 : F1) (hg : lgOK fi lc) : lgOK (f_X1_suspect_0_al_fi fi lc z w0 f0) (f_X1_suspect_0_al_lc lc z w0 f0) := by
  by_cases k0 : (v_X1_suspect_0_3 z w0 f0) = 25
  · (try simp only [f_X1_suspect_0_al_fi, f_X1_suspect_0_al_lc, if_pos k0]); exact (ok_X2_add_h fi lc hg)
  · (try simp only [f_X1_suspect_0_al_fi, f_X1_suspect_0_al_lc, if_neg k0]); exact hg
set_option maxHeartbeats 4000000 in
set_option maxRecDepth 100000 in
theorem c_X1_suspect_0 (l : Launch) (D : va_G) (ty : Nat → ClassId) (h : Nat) (aw : Nat) (al : Nat) (a0 : Nat) (a1 : Nat) (a2 : Nat) (a3 : Nat) (m0 : Nat) (t : Nat) (k : Nat) (v : Nat) (fi : Nat) (lc : Nat) (z : F1) (w0 : F1) (f0 : F1) (lt : F1) (lk : F1) (lv : F1) (T : Int32) (hk0 : kpOK w0) (hg : lgOK fi lc) : MC l D ty yX1_suspect cX1_suspect 5 none 1 [.ref h, .int 0, .int T] [(h, ctE z aw al), (aw, waE ty a0 a1 a2 a3), (a0, whE w0 m0), (m0, arE ty 5 f0), (al, loE fi lc t k v), (t, arE ty 40 lt), (k, arE ty 40 lk), (v, arE ty 40 lv)] none [(h, ctE z aw al), (aw, waE ty a0 a1 a2 a3), (a0, whE (f_X1_suspect_0_a0 z w0 f0) m0), (m0, arE ty 5 f0), (al, loE (f_X1_suspect_0_al_fi fi lc z w0 f0) (f_X1_suspect_0_al_lc lc z w0 f0) t k v), (t, arE ty 40 (f_X1_suspect_0_t fi lc z w0 f0 lt T)), (k, arE ty 40 (f_X1_suspect_0_k fi lc z w0 f0 lk)), (v, arE ty 40 (f_X1_suspect_0_v fi lc z w0 f0 lv))] := by
  refine mc_v (by decide +kernel) (Nat.le_of_ble_eq_true rfl) ?_
  intro p e s m args below meth c A Q ls C hK hA X hret hl
  have hx := C.1
  have hb := C.2.1
  have hl : lv_has ls 5 [(0, .ref h), (1, .int 0), (2, .int T)] := hl
  have X : Wd D A s.heap [(h, ctE z aw al), (aw, waE ty a0 a1 a2 a3), (a0, whE w0 m0), (m0, arE ty 5 f0), (al, loE fi lc t k v), (t, arE ty 40 lt), (k, arE ty 40 lk), (v, arE ty 40 lv)] s.heap [] := X
  refine lv_aload_n hx hb dX1_suspect_0 rfl (lv_at hl 0 rfl) ?_
  refine get_ct_0 C hK X 0 rfl fl_X1_11 dX1_suspect_1 ?_
  refine lv_iload_n hx hb dX1_suspect_4 rfl (lv_at hl 1 rfl) ?_
  refine s_aald (t0 := 2) (b := a0) C hK X 1 rfl rfl (vp_in_nI (n := 0) (by decide) (by decide)) rfl dX1_suspect_5 ?_
  refine lv_astore_n (lv' := [(3, .ref a0), (0, .ref h), (1, .int 0), (2, .int T)]) hx hb dX1_suspect_6 rfl hl (by decide) rfl (fun ls hl => ?_)
  refine lv_aload_n hx hb dX1_suspect_7 rfl (lv_at hl 0 rfl) ?_
  refine s_cV0i C hK hA X (c_X5_latest l D ty a0 m0 w0 f0 hk0) [2, 3] (pk_c rfl (pk_c rfl pk_n)) rfl ml_X5_latest wm_X1_102 (q0 := 0) rfl rfl rfl ⟨Nat.le_of_ble_eq_true rfl, Nat.le_of_ble_eq_true rfl⟩ ⟨Nat.zero_le _, Nat.zero_le _⟩ hl.1 rfl (Nat.le_of_ble_eq_true rfl) dX1_suspect_8 (fun H locs X => ?_)
  have J29_2 : ∀ (x1 : Int32) (ls : Array Slot) (H : Heap) (locs : List Loc), x1 = (v_X1_suspect_0_1 z w0 f0) → lv_has ls 5 [(3, .ref a0), (0, .ref h), (1, .int 0), (2, .int T)] → Wd D A s.heap [(h, ctE z aw al), (aw, waE ty a0 a1 a2 a3), (a0, whE w0 m0), (m0, arE ty 5 f0), (al, loE fi lc t k v), (t, arE ty 40 lt), (k, arE ty 40 lk), (v, arE ty 40 lv)] H locs → W p l e (rmD 1) s m args below meth c H locs 0 0 Q (F0 m 29 ls [.int x1]) := by
    intro x1 ls H locs ex1 hl X
    subst ex1
    refine lv_istore (lv' := [(4, .int (v_X1_suspect_0_1 z w0 f0)), (3, .ref a0), (0, .ref h), (1, .int 0), (2, .int T)]) hx hb dX1_suspect_29 hl (by decide) rfl (fun ls hl => ?_)
    refine lv_aload_n hx hb dX1_suspect_31 rfl (lv_at hl 1 rfl) ?_
    refine lv_iload hx hb dX1_suspect_32 (lv_at hl 0 rfl) ?_
    have J47_4 : ∀ (x3 : Int32) (ls : Array Slot) (H : Heap) (locs : List Loc), x3 = (v_X1_suspect_0_3 z w0 f0) → lv_has ls 5 [(4, .int (v_X1_suspect_0_1 z w0 f0)), (3, .ref a0), (0, .ref h), (1, .int 0), (2, .int T)] → Wd D A s.heap [(h, ctE z aw al), (aw, waE ty a0 a1 a2 a3), (a0, whE w0 m0), (m0, arE ty 5 f0), (al, loE fi lc t k v), (t, arE ty 40 lt), (k, arE ty 40 lk), (v, arE ty 40 lv)] H locs → W p l e (rmD 1) s m args below meth c H locs 0 0 Q (F0 m 47 ls [.int x3, .ref a0]) := by
      intro x3 ls H locs ex3 hl X
      subst ex3
      refine put_wh_7 C hK X 2 rfl pl_X1_96 dX1_suspect_47 (fun H locs X => ?_)
      have X : Wd D A s.heap [(h, ctE z aw al), (aw, waE ty a0 a1 a2 a3), (a0, whE (upd w0 8 (v_X1_suspect_0_3 z w0 f0)) m0), (m0, arE ty 5 f0), (al, loE fi lc t k v), (t, arE ty 40 lt), (k, arE ty 40 lk), (v, arE ty 40 lv)] H locs := X
      refine lv_aload_n hx hb dX1_suspect_50 rfl (lv_at hl 1 rfl) ?_
      refine get_wh_7 C hK X 2 rfl fl_X1_96 dX1_suspect_51 ?_
      refine s_eqi (y := (v_X1_suspect_0_3 z w0 f0)) pk_us ?_
      refine lv_bipush (v := 25) hx hb dX1_suspect_54 (by decide) ?_
      refine lv_icmp_ne (tgt := 74) hx hb dX1_suspect_56 (by decide) (fun c0_0 => ?_) (fun c0_0 => ?_)
      · have e_2_0 : (f_X1_suspect_0_a0 z w0 f0) = (upd w0 8 (v_X1_suspect_0_3 z w0 f0)) := by first | (rw [f_X1_suspect_0_a0, if_neg c0_0]; done) | (rw [f_X1_suspect_0_a0, if_neg c0_0]; rfl) | (simp only [f_X1_suspect_0_a0, if_neg c0_0]; done)
        have e_4_0 : (f_X1_suspect_0_al_fi fi lc z w0 f0) = fi := by first | (rw [f_X1_suspect_0_al_fi, if_neg c0_0]; done) | (rw [f_X1_suspect_0_al_fi, if_neg c0_0]; rfl) | (simp only [f_X1_suspect_0_al_fi, if_neg c0_0]; done)
        have e_4_1 : (f_X1_suspect_0_al_lc lc z w0 f0) = lc := by first | (rw [f_X1_suspect_0_al_lc, if_neg c0_0]; done) | (rw [f_X1_suspect_0_al_lc, if_neg c0_0]; rfl) | (simp only [f_X1_suspect_0_al_lc, if_neg c0_0]; done)
        have e_5_1 : (f_X1_suspect_0_t fi lc z w0 f0 lt T) = lt := by first | (rw [f_X1_suspect_0_t, if_neg c0_0]; done) | (rw [f_X1_suspect_0_t, if_neg c0_0]; rfl) | (simp only [f_X1_suspect_0_t, if_neg c0_0]; done)
        have e_6_1 : (f_X1_suspect_0_k fi lc z w0 f0 lk) = lk := by first | (rw [f_X1_suspect_0_k, if_neg c0_0]; done) | (rw [f_X1_suspect_0_k, if_neg c0_0]; rfl) | (simp only [f_X1_suspect_0_k, if_neg c0_0]; done)
        have e_7_1 : (f_X1_suspect_0_v fi lc z w0 f0 lv) = lv := by first | (rw [f_X1_suspect_0_v, if_neg c0_0]; done) | (rw [f_X1_suspect_0_v, if_neg c0_0]; rfl) | (simp only [f_X1_suspect_0_v, if_neg c0_0]; done)
        exact hret _ _ _ _ _ dX1_suspect_74 X (by rw [e_2_0, e_4_0, e_4_1, e_5_1, e_6_1, e_7_1])
      · refine lv_aload_n hx hb dX1_suspect_59 rfl (lv_at hl 1 rfl) ?_
        refine lv_iconst (v := 1) hx hb dX1_suspect_60 (by decide) ?_
        refine put_wh_8 C hK X 2 rfl pl_X1_93 isB1 dX1_suspect_61 (fun H locs X => ?_)
        have X : Wd D A s.heap [(h, ctE z aw al), (aw, waE ty a0 a1 a2 a3), (a0, whE (upd (upd w0 8 (v_X1_suspect_0_3 z w0 f0)) 7 1) m0), (m0, arE ty 5 f0), (al, loE fi lc t k v), (t, arE ty 40 lt), (k, arE ty 40 lk), (v, arE ty 40 lv)] H locs := X
        refine lv_aload_n hx hb dX1_suspect_64 rfl (lv_at hl 2 rfl) ?_
        refine get_ct_1 C hK X 0 rfl fl_X1_21 dX1_suspect_65 ?_
        refine lv_iload_n hx hb dX1_suspect_68 rfl (lv_at hl 4 rfl) ?_
        refine lv_iconst (v := 1) hx hb dX1_suspect_69 (by decide) ?_
        refine lv_iload_n hx hb dX1_suspect_70 rfl (lv_at hl 3 rfl) ?_
        refine s_cVv (ws' := [(h, ctE z aw al), (aw, waE ty a0 a1 a2 a3), (a0, whE (upd (upd w0 8 (v_X1_suspect_0_3 z w0 f0)) 7 1) m0), (m0, arE ty 5 f0), (al, loE (f_X2_add_h_fi fi lc) (f_X2_add_h_lc lc) t k v), (t, arE ty 40 (f_X2_add_t fi lc lt T)), (k, arE ty 40 (f_X2_add_k fi lc lk 1)), (v, arE ty 40 (f_X2_add_v fi lc lv 0))]) C hK hA X (c_X2_add l D ty al t k v fi lc lt lk lv T 1 0 hg) [4, 5, 6, 7] (pk_c rfl (pk_c rfl (pk_c rfl (pk_c rfl pk_n)))) rfl (pk_c rfl (pk_c rfl (pk_c rfl (pk_c rfl pk_n)))) (em_f (em_f (em_f (em_f (em_t (em_t (em_t (em_t em_n)))))))) rfl ml_X2_add wm_X1_120 (q0 := 0) rfl rfl rfl ⟨Nat.le_of_ble_eq_true rfl, Nat.le_of_ble_eq_true rfl⟩ ⟨Nat.zero_le _, Nat.zero_le _⟩ hl.1 rfl (Nat.le_of_ble_eq_true rfl) dX1_suspect_71 (fun H locs X => ?_)
        have e_2_0 : (f_X1_suspect_0_a0 z w0 f0) = (upd (upd w0 8 (v_X1_suspect_0_3 z w0 f0)) 7 1) := by first | (rw [f_X1_suspect_0_a0, if_pos c0_0]; done) | (rw [f_X1_suspect_0_a0, if_pos c0_0]; rfl) | (simp only [f_X1_suspect_0_a0, if_pos c0_0]; done)
        have e_4_0 : (f_X1_suspect_0_al_fi fi lc z w0 f0) = (f_X2_add_h_fi fi lc) := by first | (rw [f_X1_suspect_0_al_fi, if_pos c0_0]; done) | (rw [f_X1_suspect_0_al_fi, if_pos c0_0]; rfl) | (simp only [f_X1_suspect_0_al_fi, if_pos c0_0]; done)
        have e_4_1 : (f_X1_suspect_0_al_lc lc z w0 f0) = (f_X2_add_h_lc lc) := by first | (rw [f_X1_suspect_0_al_lc, if_pos c0_0]; done) | (rw [f_X1_suspect_0_al_lc, if_pos c0_0]; rfl) | (simp only [f_X1_suspect_0_al_lc, if_pos c0_0]; done)
        have e_5_1 : (f_X1_suspect_0_t fi lc z w0 f0 lt T) = (f_X2_add_t fi lc lt T) := by first | (rw [f_X1_suspect_0_t, if_pos c0_0]; done) | (rw [f_X1_suspect_0_t, if_pos c0_0]; rfl) | (simp only [f_X1_suspect_0_t, if_pos c0_0]; done)
        have e_6_1 : (f_X1_suspect_0_k fi lc z w0 f0 lk) = (f_X2_add_k fi lc lk 1) := by first | (rw [f_X1_suspect_0_k, if_pos c0_0]; done) | (rw [f_X1_suspect_0_k, if_pos c0_0]; rfl) | (simp only [f_X1_suspect_0_k, if_pos c0_0]; done)
        have e_7_1 : (f_X1_suspect_0_v fi lc z w0 f0 lv) = (f_X2_add_v fi lc lv 0) := by first | (rw [f_X1_suspect_0_v, if_pos c0_0]; done) | (rw [f_X1_suspect_0_v, if_pos c0_0]; rfl) | (simp only [f_X1_suspect_0_v, if_pos c0_0]; done)
        exact hret _ _ _ _ _ dX1_suspect_74 X (by rw [e_2_0, e_4_0, e_4_1, e_5_1, e_6_1, e_7_1])
    refine lv_if_eq (tgt := 46) hx hb dX1_suspect_34 (by decide) (fun c0_0 => ?_) (fun c0_0 => ?_)
    · refine lv_iconst (v := 0) hx hb dX1_suspect_46 (by decide) ?_
      exact J47_4 0 _ _ _ (by first | (rw [v_X1_suspect_0_3, if_pos c0_0]; done) | (rw [v_X1_suspect_0_3, if_pos c0_0]; rfl) | (simp only [v_X1_suspect_0_3, if_pos c0_0]; done)) (lv_sub hl [0, 1, 2, 3, 4] rfl) X
    · refine lv_aload_n hx hb dX1_suspect_37 rfl (lv_at hl 1 rfl) ?_
      refine get_wh_7 C hK X 2 rfl fl_X1_96 dX1_suspect_38 ?_
      refine lv_iconst (v := 1) hx hb dX1_suspect_41 (by decide) ?_
      refine lv_iadd hx hb dX1_suspect_42 ?_
      refine lv_goto (tgt := 47) hx hb dX1_suspect_43 (by decide) ?_
      exact J47_4 ((w0 8) + 1) _ _ _ (by first | (rw [v_X1_suspect_0_3, if_neg c0_0]; done) | (rw [v_X1_suspect_0_3, if_neg c0_0]; rfl) | (simp only [v_X1_suspect_0_3, if_neg c0_0]; done)) (lv_sub hl [0, 1, 2, 3, 4] rfl) X
  refine lv_if_ne (tgt := 28) hx hb dX1_suspect_11 (by decide) (fun c0_0 => ?_) (fun c0_0 => ?_)
  · refine lv_iconst (v := 0) hx hb dX1_suspect_28 (by decide) ?_
    exact J29_2 0 _ _ _ (by first | (rw [v_X1_suspect_0_1, if_neg c0_0]; done) | (rw [v_X1_suspect_0_1, if_neg c0_0]; rfl) | (simp only [v_X1_suspect_0_1, if_neg c0_0]; done)) (lv_sub hl [0, 1, 2, 3] rfl) X
  · refine lv_aload_n hx hb dX1_suspect_14 rfl (lv_at hl 1 rfl) ?_
    refine get_ct_3 C hK X 0 rfl fl_X1_42 dX1_suspect_15 ?_
    refine lv_sipush (v := 3000) hx hb dX1_suspect_18 (by decide) ?_
    refine lv_icmp_lt (tgt := 28) hx hb dX1_suspect_21 (by decide) (fun c1_1 => ?_) (fun c1_1 => ?_)
    · refine lv_iconst (v := 0) hx hb dX1_suspect_28 (by decide) ?_
      exact J29_2 0 _ _ _ (by first | (rw [v_X1_suspect_0_1, if_pos c0_0, if_pos c1_1]; done) | (rw [v_X1_suspect_0_1, if_pos c0_0, if_pos c1_1]; rfl) | (simp only [v_X1_suspect_0_1, if_pos c0_0, if_pos c1_1]; done)) (lv_sub hl [0, 1, 2, 3] rfl) X
    · refine lv_iconst (v := 1) hx hb dX1_suspect_24 (by decide) ?_
      refine lv_goto (tgt := 29) hx hb dX1_suspect_25 (by decide) ?_
      exact J29_2 1 _ _ _ (by first | (rw [v_X1_suspect_0_1, if_pos c0_0, if_neg c1_1]; done) | (rw [v_X1_suspect_0_1, if_pos c0_0, if_neg c1_1]; rfl) | (simp only [v_X1_suspect_0_1, if_pos c0_0, if_neg c1_1]; done)) (lv_sub hl [0, 1, 2, 3] rfl) X
def v_X1_suspect_1_1 (z : F1) (w1 : F1) (f1 : F1) : Int32 := (if (f_X5_latest w1 f1) = 0 then (if (z 0) < 3000 then 0 else 1) else 0)
def v_X1_suspect_1_3 (z : F1) (w1 : F1) (f1 : F1) : Int32 := (if (v_X1_suspect_1_1 z w1 f1) = 0 then 0 else ((w1 8) + 1))
def f_X1_suspect_1_a1 (z : F1) (w1 : F1) (f1 : F1) : F1 := (if (v_X1_suspect_1_3 z w1 f1) = 25 then (upd (upd w1 8 (v_X1_suspect_1_3 z w1 f1)) 7 1) else (upd w1 8 (v_X1_suspect_1_3 z w1 f1)))
def f_X1_suspect_1_al_fi (fi : Nat) (lc : Nat) (z : F1) (w1 : F1) (f1 : F1) : Nat := (if (v_X1_suspect_1_3 z w1 f1) = 25 then (f_X2_add_h_fi fi lc) else fi)
def f_X1_suspect_1_al_lc (lc : Nat) (z : F1) (w1 : F1) (f1 : F1) : Nat := (if (v_X1_suspect_1_3 z w1 f1) = 25 then (f_X2_add_h_lc lc) else lc)
def f_X1_suspect_1_t (fi : Nat) (lc : Nat) (z : F1) (w1 : F1) (f1 : F1) (lt : F1) (T : Int32) : F1 := (if (v_X1_suspect_1_3 z w1 f1) = 25 then (f_X2_add_t fi lc lt T) else lt)
def f_X1_suspect_1_k (fi : Nat) (lc : Nat) (z : F1) (w1 : F1) (f1 : F1) (lk : F1) : F1 := (if (v_X1_suspect_1_3 z w1 f1) = 25 then (f_X2_add_k fi lc lk 1) else lk)
def f_X1_suspect_1_v (fi : Nat) (lc : Nat) (z : F1) (w1 : F1) (f1 : F1) (lv : F1) : F1 := (if (v_X1_suspect_1_3 z w1 f1) = 25 then (f_X2_add_v fi lc lv 1) else lv)
theorem ok_X1_suspect_1_a1 (z : F1) (w1 : F1) (f1 : F1) (hk1 : kpOK w1) : kpOK (f_X1_suspect_1_a1 z w1 f1) := by
  by_cases k0 : (v_X1_suspect_1_3 z w1 f1) = 25
  · (try simp only [f_X1_suspect_1_a1, if_pos k0]); exact (kp_upd (kp_upd hk1))
  · (try simp only [f_X1_suspect_1_a1, if_neg k0]); exact (kp_upd hk1)
theorem ok_X1_suspect_1_al (fi : Nat) (lc : Nat) (z : F1) (w1 : F1) (f1 : F1) (hg : lgOK fi lc) : lgOK (f_X1_suspect_1_al_fi fi lc z w1 f1) (f_X1_suspect_1_al_lc lc z w1 f1) := by
  by_cases k0 : (v_X1_suspect_1_3 z w1 f1) = 25
  · (try simp only [f_X1_suspect_1_al_fi, f_X1_suspect_1_al_lc, if_pos k0]); exact (ok_X2_add_h fi lc hg)
  · (try simp only [f_X1_suspect_1_al_fi, f_X1_suspect_1_al_lc, if_neg k0]); exact hg
set_option maxHeartbeats 4000000 in
set_option maxRecDepth 100000 in
theorem c_X1_suspect_1 (l : Launch) (D : va_G) (ty : Nat → ClassId) (h : Nat) (aw : Nat) (al : Nat) (a0 : Nat) (a1 : Nat) (a2 : Nat) (a3 : Nat) (m1 : Nat) (t : Nat) (k : Nat) (v : Nat) (fi : Nat) (lc : Nat) (z : F1) (w1 : F1) (f1 : F1) (lt : F1) (lk : F1) (lv : F1) (T : Int32) (hk1 : kpOK w1) (hg : lgOK fi lc) : MC l D ty yX1_suspect cX1_suspect 5 none 1 [.ref h, .int 1, .int T] [(h, ctE z aw al), (aw, waE ty a0 a1 a2 a3), (a1, whE w1 m1), (m1, arE ty 5 f1), (al, loE fi lc t k v), (t, arE ty 40 lt), (k, arE ty 40 lk), (v, arE ty 40 lv)] none [(h, ctE z aw al), (aw, waE ty a0 a1 a2 a3), (a1, whE (f_X1_suspect_1_a1 z w1 f1) m1), (m1, arE ty 5 f1), (al, loE (f_X1_suspect_1_al_fi fi lc z w1 f1) (f_X1_suspect_1_al_lc lc z w1 f1) t k v), (t, arE ty 40 (f_X1_suspect_1_t fi lc z w1 f1 lt T)), (k, arE ty 40 (f_X1_suspect_1_k fi lc z w1 f1 lk)), (v, arE ty 40 (f_X1_suspect_1_v fi lc z w1 f1 lv))] := by
  refine mc_v (by decide +kernel) (Nat.le_of_ble_eq_true rfl) ?_
  intro p e s m args below meth c A Q ls C hK hA X hret hl
  have hx := C.1
  have hb := C.2.1
  have hl : lv_has ls 5 [(0, .ref h), (1, .int 1), (2, .int T)] := hl
  have X : Wd D A s.heap [(h, ctE z aw al), (aw, waE ty a0 a1 a2 a3), (a1, whE w1 m1), (m1, arE ty 5 f1), (al, loE fi lc t k v), (t, arE ty 40 lt), (k, arE ty 40 lk), (v, arE ty 40 lv)] s.heap [] := X
  refine lv_aload_n hx hb dX1_suspect_0 rfl (lv_at hl 0 rfl) ?_
  refine get_ct_0 C hK X 0 rfl fl_X1_11 dX1_suspect_1 ?_
  refine lv_iload_n hx hb dX1_suspect_4 rfl (lv_at hl 1 rfl) ?_
  refine s_aald (t0 := 2) (b := a1) C hK X 1 rfl rfl (vp_in_nI (n := 1) (by decide) (by decide)) rfl dX1_suspect_5 ?_
  refine lv_astore_n (lv' := [(3, .ref a1), (0, .ref h), (1, .int 1), (2, .int T)]) hx hb dX1_suspect_6 rfl hl (by decide) rfl (fun ls hl => ?_)
  refine lv_aload_n hx hb dX1_suspect_7 rfl (lv_at hl 0 rfl) ?_
  refine s_cV0i C hK hA X (c_X5_latest l D ty a1 m1 w1 f1 hk1) [2, 3] (pk_c rfl (pk_c rfl pk_n)) rfl ml_X5_latest wm_X1_102 (q0 := 0) rfl rfl rfl ⟨Nat.le_of_ble_eq_true rfl, Nat.le_of_ble_eq_true rfl⟩ ⟨Nat.zero_le _, Nat.zero_le _⟩ hl.1 rfl (Nat.le_of_ble_eq_true rfl) dX1_suspect_8 (fun H locs X => ?_)
  have J29_2 : ∀ (x1 : Int32) (ls : Array Slot) (H : Heap) (locs : List Loc), x1 = (v_X1_suspect_1_1 z w1 f1) → lv_has ls 5 [(3, .ref a1), (0, .ref h), (1, .int 1), (2, .int T)] → Wd D A s.heap [(h, ctE z aw al), (aw, waE ty a0 a1 a2 a3), (a1, whE w1 m1), (m1, arE ty 5 f1), (al, loE fi lc t k v), (t, arE ty 40 lt), (k, arE ty 40 lk), (v, arE ty 40 lv)] H locs → W p l e (rmD 1) s m args below meth c H locs 0 0 Q (F0 m 29 ls [.int x1]) := by
    intro x1 ls H locs ex1 hl X
    subst ex1
    refine lv_istore (lv' := [(4, .int (v_X1_suspect_1_1 z w1 f1)), (3, .ref a1), (0, .ref h), (1, .int 1), (2, .int T)]) hx hb dX1_suspect_29 hl (by decide) rfl (fun ls hl => ?_)
    refine lv_aload_n hx hb dX1_suspect_31 rfl (lv_at hl 1 rfl) ?_
    refine lv_iload hx hb dX1_suspect_32 (lv_at hl 0 rfl) ?_
    have J47_4 : ∀ (x3 : Int32) (ls : Array Slot) (H : Heap) (locs : List Loc), x3 = (v_X1_suspect_1_3 z w1 f1) → lv_has ls 5 [(4, .int (v_X1_suspect_1_1 z w1 f1)), (3, .ref a1), (0, .ref h), (1, .int 1), (2, .int T)] → Wd D A s.heap [(h, ctE z aw al), (aw, waE ty a0 a1 a2 a3), (a1, whE w1 m1), (m1, arE ty 5 f1), (al, loE fi lc t k v), (t, arE ty 40 lt), (k, arE ty 40 lk), (v, arE ty 40 lv)] H locs → W p l e (rmD 1) s m args below meth c H locs 0 0 Q (F0 m 47 ls [.int x3, .ref a1]) := by
      intro x3 ls H locs ex3 hl X
      subst ex3
      refine put_wh_7 C hK X 2 rfl pl_X1_96 dX1_suspect_47 (fun H locs X => ?_)
      have X : Wd D A s.heap [(h, ctE z aw al), (aw, waE ty a0 a1 a2 a3), (a1, whE (upd w1 8 (v_X1_suspect_1_3 z w1 f1)) m1), (m1, arE ty 5 f1), (al, loE fi lc t k v), (t, arE ty 40 lt), (k, arE ty 40 lk), (v, arE ty 40 lv)] H locs := X
      refine lv_aload_n hx hb dX1_suspect_50 rfl (lv_at hl 1 rfl) ?_
      refine get_wh_7 C hK X 2 rfl fl_X1_96 dX1_suspect_51 ?_
      refine s_eqi (y := (v_X1_suspect_1_3 z w1 f1)) pk_us ?_
      refine lv_bipush (v := 25) hx hb dX1_suspect_54 (by decide) ?_
      refine lv_icmp_ne (tgt := 74) hx hb dX1_suspect_56 (by decide) (fun c0_0 => ?_) (fun c0_0 => ?_)
      · have e_2_0 : (f_X1_suspect_1_a1 z w1 f1) = (upd w1 8 (v_X1_suspect_1_3 z w1 f1)) := by first | (rw [f_X1_suspect_1_a1, if_neg c0_0]; done) | (rw [f_X1_suspect_1_a1, if_neg c0_0]; rfl) | (simp only [f_X1_suspect_1_a1, if_neg c0_0]; done)
        have e_4_0 : (f_X1_suspect_1_al_fi fi lc z w1 f1) = fi := by first | (rw [f_X1_suspect_1_al_fi, if_neg c0_0]; done) | (rw [f_X1_suspect_1_al_fi, if_neg c0_0]; rfl) | (simp only [f_X1_suspect_1_al_fi, if_neg c0_0]; done)
        have e_4_1 : (f_X1_suspect_1_al_lc lc z w1 f1) = lc := by first | (rw [f_X1_suspect_1_al_lc, if_neg c0_0]; done) | (rw [f_X1_suspect_1_al_lc, if_neg c0_0]; rfl) | (simp only [f_X1_suspect_1_al_lc, if_neg c0_0]; done)
        have e_5_1 : (f_X1_suspect_1_t fi lc z w1 f1 lt T) = lt := by first | (rw [f_X1_suspect_1_t, if_neg c0_0]; done) | (rw [f_X1_suspect_1_t, if_neg c0_0]; rfl) | (simp only [f_X1_suspect_1_t, if_neg c0_0]; done)
        have e_6_1 : (f_X1_suspect_1_k fi lc z w1 f1 lk) = lk := by first | (rw [f_X1_suspect_1_k, if_neg c0_0]; done) | (rw [f_X1_suspect_1_k, if_neg c0_0]; rfl) | (simp only [f_X1_suspect_1_k, if_neg c0_0]; done)
        have e_7_1 : (f_X1_suspect_1_v fi lc z w1 f1 lv) = lv := by first | (rw [f_X1_suspect_1_v, if_neg c0_0]; done) | (rw [f_X1_suspect_1_v, if_neg c0_0]; rfl) | (simp only [f_X1_suspect_1_v, if_neg c0_0]; done)
        exact hret _ _ _ _ _ dX1_suspect_74 X (by rw [e_2_0, e_4_0, e_4_1, e_5_1, e_6_1, e_7_1])
      · refine lv_aload_n hx hb dX1_suspect_59 rfl (lv_at hl 1 rfl) ?_
        refine lv_iconst (v := 1) hx hb dX1_suspect_60 (by decide) ?_
        refine put_wh_8 C hK X 2 rfl pl_X1_93 isB1 dX1_suspect_61 (fun H locs X => ?_)
        have X : Wd D A s.heap [(h, ctE z aw al), (aw, waE ty a0 a1 a2 a3), (a1, whE (upd (upd w1 8 (v_X1_suspect_1_3 z w1 f1)) 7 1) m1), (m1, arE ty 5 f1), (al, loE fi lc t k v), (t, arE ty 40 lt), (k, arE ty 40 lk), (v, arE ty 40 lv)] H locs := X
        refine lv_aload_n hx hb dX1_suspect_64 rfl (lv_at hl 2 rfl) ?_
        refine get_ct_1 C hK X 0 rfl fl_X1_21 dX1_suspect_65 ?_
        refine lv_iload_n hx hb dX1_suspect_68 rfl (lv_at hl 4 rfl) ?_
        refine lv_iconst (v := 1) hx hb dX1_suspect_69 (by decide) ?_
        refine lv_iload_n hx hb dX1_suspect_70 rfl (lv_at hl 3 rfl) ?_
        refine s_cVv (ws' := [(h, ctE z aw al), (aw, waE ty a0 a1 a2 a3), (a1, whE (upd (upd w1 8 (v_X1_suspect_1_3 z w1 f1)) 7 1) m1), (m1, arE ty 5 f1), (al, loE (f_X2_add_h_fi fi lc) (f_X2_add_h_lc lc) t k v), (t, arE ty 40 (f_X2_add_t fi lc lt T)), (k, arE ty 40 (f_X2_add_k fi lc lk 1)), (v, arE ty 40 (f_X2_add_v fi lc lv 1))]) C hK hA X (c_X2_add l D ty al t k v fi lc lt lk lv T 1 1 hg) [4, 5, 6, 7] (pk_c rfl (pk_c rfl (pk_c rfl (pk_c rfl pk_n)))) rfl (pk_c rfl (pk_c rfl (pk_c rfl (pk_c rfl pk_n)))) (em_f (em_f (em_f (em_f (em_t (em_t (em_t (em_t em_n)))))))) rfl ml_X2_add wm_X1_120 (q0 := 0) rfl rfl rfl ⟨Nat.le_of_ble_eq_true rfl, Nat.le_of_ble_eq_true rfl⟩ ⟨Nat.zero_le _, Nat.zero_le _⟩ hl.1 rfl (Nat.le_of_ble_eq_true rfl) dX1_suspect_71 (fun H locs X => ?_)
        have e_2_0 : (f_X1_suspect_1_a1 z w1 f1) = (upd (upd w1 8 (v_X1_suspect_1_3 z w1 f1)) 7 1) := by first | (rw [f_X1_suspect_1_a1, if_pos c0_0]; done) | (rw [f_X1_suspect_1_a1, if_pos c0_0]; rfl) | (simp only [f_X1_suspect_1_a1, if_pos c0_0]; done)
        have e_4_0 : (f_X1_suspect_1_al_fi fi lc z w1 f1) = (f_X2_add_h_fi fi lc) := by first | (rw [f_X1_suspect_1_al_fi, if_pos c0_0]; done) | (rw [f_X1_suspect_1_al_fi, if_pos c0_0]; rfl) | (simp only [f_X1_suspect_1_al_fi, if_pos c0_0]; done)
        have e_4_1 : (f_X1_suspect_1_al_lc lc z w1 f1) = (f_X2_add_h_lc lc) := by first | (rw [f_X1_suspect_1_al_lc, if_pos c0_0]; done) | (rw [f_X1_suspect_1_al_lc, if_pos c0_0]; rfl) | (simp only [f_X1_suspect_1_al_lc, if_pos c0_0]; done)
        have e_5_1 : (f_X1_suspect_1_t fi lc z w1 f1 lt T) = (f_X2_add_t fi lc lt T) := by first | (rw [f_X1_suspect_1_t, if_pos c0_0]; done) | (rw [f_X1_suspect_1_t, if_pos c0_0]; rfl) | (simp only [f_X1_suspect_1_t, if_pos c0_0]; done)
        have e_6_1 : (f_X1_suspect_1_k fi lc z w1 f1 lk) = (f_X2_add_k fi lc lk 1) := by first | (rw [f_X1_suspect_1_k, if_pos c0_0]; done) | (rw [f_X1_suspect_1_k, if_pos c0_0]; rfl) | (simp only [f_X1_suspect_1_k, if_pos c0_0]; done)
        have e_7_1 : (f_X1_suspect_1_v fi lc z w1 f1 lv) = (f_X2_add_v fi lc lv 1) := by first | (rw [f_X1_suspect_1_v, if_pos c0_0]; done) | (rw [f_X1_suspect_1_v, if_pos c0_0]; rfl) | (simp only [f_X1_suspect_1_v, if_pos c0_0]; done)
        exact hret _ _ _ _ _ dX1_suspect_74 X (by rw [e_2_0, e_4_0, e_4_1, e_5_1, e_6_1, e_7_1])
    refine lv_if_eq (tgt := 46) hx hb dX1_suspect_34 (by decide) (fun c0_0 => ?_) (fun c0_0 => ?_)
    · refine lv_iconst (v := 0) hx hb dX1_suspect_46 (by decide) ?_
      exact J47_4 0 _ _ _ (by first | (rw [v_X1_suspect_1_3, if_pos c0_0]; done) | (rw [v_X1_suspect_1_3, if_pos c0_0]; rfl) | (simp only [v_X1_suspect_1_3, if_pos c0_0]; done)) (lv_sub hl [0, 1, 2, 3, 4] rfl) X
    · refine lv_aload_n hx hb dX1_suspect_37 rfl (lv_at hl 1 rfl) ?_
      refine get_wh_7 C hK X 2 rfl fl_X1_96 dX1_suspect_38 ?_
      refine lv_iconst (v := 1) hx hb dX1_suspect_41 (by decide) ?_
      refine lv_iadd hx hb dX1_suspect_42 ?_
      refine lv_goto (tgt := 47) hx hb dX1_suspect_43 (by decide) ?_
      exact J47_4 ((w1 8) + 1) _ _ _ (by first | (rw [v_X1_suspect_1_3, if_neg c0_0]; done) | (rw [v_X1_suspect_1_3, if_neg c0_0]; rfl) | (simp only [v_X1_suspect_1_3, if_neg c0_0]; done)) (lv_sub hl [0, 1, 2, 3, 4] rfl) X
  refine lv_if_ne (tgt := 28) hx hb dX1_suspect_11 (by decide) (fun c0_0 => ?_) (fun c0_0 => ?_)
  · refine lv_iconst (v := 0) hx hb dX1_suspect_28 (by decide) ?_
    exact J29_2 0 _ _ _ (by first | (rw [v_X1_suspect_1_1, if_neg c0_0]; done) | (rw [v_X1_suspect_1_1, if_neg c0_0]; rfl) | (simp only [v_X1_suspect_1_1, if_neg c0_0]; done)) (lv_sub hl [0, 1, 2, 3] rfl) X
  · refine lv_aload_n hx hb dX1_suspect_14 rfl (lv_at hl 1 rfl) ?_
    refine get_ct_3 C hK X 0 rfl fl_X1_42 dX1_suspect_15 ?_
    refine lv_sipush (v := 3000) hx hb dX1_suspect_18 (by decide) ?_
    refine lv_icmp_lt (tgt := 28) hx hb dX1_suspect_21 (by decide) (fun c1_1 => ?_) (fun c1_1 => ?_)
    · refine lv_iconst (v := 0) hx hb dX1_suspect_28 (by decide) ?_
      exact J29_2 0 _ _ _ (by first | (rw [v_X1_suspect_1_1, if_pos c0_0, if_pos c1_1]; done) | (rw [v_X1_suspect_1_1, if_pos c0_0, if_pos c1_1]; rfl) | (simp only [v_X1_suspect_1_1, if_pos c0_0, if_pos c1_1]; done)) (lv_sub hl [0, 1, 2, 3] rfl) X
    · refine lv_iconst (v := 1) hx hb dX1_suspect_24 (by decide) ?_
      refine lv_goto (tgt := 29) hx hb dX1_suspect_25 (by decide) ?_
      exact J29_2 1 _ _ _ (by first | (rw [v_X1_suspect_1_1, if_pos c0_0, if_neg c1_1]; done) | (rw [v_X1_suspect_1_1, if_pos c0_0, if_neg c1_1]; rfl) | (simp only [v_X1_suspect_1_1, if_pos c0_0, if_neg c1_1]; done)) (lv_sub hl [0, 1, 2, 3] rfl) X
def v_X1_suspect_2_1 (z : F1) (w2 : F1) (f2 : F1) : Int32 := (if (f_X5_latest w2 f2) = 0 then (if (z 0) < 3000 then 0 else 1) else 0)
def v_X1_suspect_2_3 (z : F1) (w2 : F1) (f2 : F1) : Int32 := (if (v_X1_suspect_2_1 z w2 f2) = 0 then 0 else ((w2 8) + 1))
def f_X1_suspect_2_a2 (z : F1) (w2 : F1) (f2 : F1) : F1 := (if (v_X1_suspect_2_3 z w2 f2) = 25 then (upd (upd w2 8 (v_X1_suspect_2_3 z w2 f2)) 7 1) else (upd w2 8 (v_X1_suspect_2_3 z w2 f2)))
def f_X1_suspect_2_al_fi (fi : Nat) (lc : Nat) (z : F1) (w2 : F1) (f2 : F1) : Nat := (if (v_X1_suspect_2_3 z w2 f2) = 25 then (f_X2_add_h_fi fi lc) else fi)
def f_X1_suspect_2_al_lc (lc : Nat) (z : F1) (w2 : F1) (f2 : F1) : Nat := (if (v_X1_suspect_2_3 z w2 f2) = 25 then (f_X2_add_h_lc lc) else lc)
def f_X1_suspect_2_t (fi : Nat) (lc : Nat) (z : F1) (w2 : F1) (f2 : F1) (lt : F1) (T : Int32) : F1 := (if (v_X1_suspect_2_3 z w2 f2) = 25 then (f_X2_add_t fi lc lt T) else lt)
def f_X1_suspect_2_k (fi : Nat) (lc : Nat) (z : F1) (w2 : F1) (f2 : F1) (lk : F1) : F1 := (if (v_X1_suspect_2_3 z w2 f2) = 25 then (f_X2_add_k fi lc lk 1) else lk)
def f_X1_suspect_2_v (fi : Nat) (lc : Nat) (z : F1) (w2 : F1) (f2 : F1) (lv : F1) : F1 := (if (v_X1_suspect_2_3 z w2 f2) = 25 then (f_X2_add_v fi lc lv 2) else lv)
theorem ok_X1_suspect_2_a2 (z : F1) (w2 : F1) (f2 : F1) (hk2 : kpOK w2) : kpOK (f_X1_suspect_2_a2 z w2 f2) := by
  by_cases k0 : (v_X1_suspect_2_3 z w2 f2) = 25
  · (try simp only [f_X1_suspect_2_a2, if_pos k0]); exact (kp_upd (kp_upd hk2))
  · (try simp only [f_X1_suspect_2_a2, if_neg k0]); exact (kp_upd hk2)
theorem ok_X1_suspect_2_al (fi : Nat) (lc : Nat) (z : F1) (w2 : F1) (f2 : F1) (hg : lgOK fi lc) : lgOK (f_X1_suspect_2_al_fi fi lc z w2 f2) (f_X1_suspect_2_al_lc lc z w2 f2) := by
  by_cases k0 : (v_X1_suspect_2_3 z w2 f2) = 25
  · (try simp only [f_X1_suspect_2_al_fi, f_X1_suspect_2_al_lc, if_pos k0]); exact (ok_X2_add_h fi lc hg)
  · (try simp only [f_X1_suspect_2_al_fi, f_X1_suspect_2_al_lc, if_neg k0]); exact hg
set_option maxHeartbeats 4000000 in
set_option maxRecDepth 100000 in
theorem c_X1_suspect_2 (l : Launch) (D : va_G) (ty : Nat → ClassId) (h : Nat) (aw : Nat) (al : Nat) (a0 : Nat) (a1 : Nat) (a2 : Nat) (a3 : Nat) (m2 : Nat) (t : Nat) (k : Nat) (v : Nat) (fi : Nat) (lc : Nat) (z : F1) (w2 : F1) (f2 : F1) (lt : F1) (lk : F1) (lv : F1) (T : Int32) (hk2 : kpOK w2) (hg : lgOK fi lc) : MC l D ty yX1_suspect cX1_suspect 5 none 1 [.ref h, .int 2, .int T] [(h, ctE z aw al), (aw, waE ty a0 a1 a2 a3), (a2, whE w2 m2), (m2, arE ty 5 f2), (al, loE fi lc t k v), (t, arE ty 40 lt), (k, arE ty 40 lk), (v, arE ty 40 lv)] none [(h, ctE z aw al), (aw, waE ty a0 a1 a2 a3), (a2, whE (f_X1_suspect_2_a2 z w2 f2) m2), (m2, arE ty 5 f2), (al, loE (f_X1_suspect_2_al_fi fi lc z w2 f2) (f_X1_suspect_2_al_lc lc z w2 f2) t k v), (t, arE ty 40 (f_X1_suspect_2_t fi lc z w2 f2 lt T)), (k, arE ty 40 (f_X1_suspect_2_k fi lc z w2 f2 lk)), (v, arE ty 40 (f_X1_suspect_2_v fi lc z w2 f2 lv))] := by
  refine mc_v (by decide +kernel) (Nat.le_of_ble_eq_true rfl) ?_
  intro p e s m args below meth c A Q ls C hK hA X hret hl
  have hx := C.1
  have hb := C.2.1
  have hl : lv_has ls 5 [(0, .ref h), (1, .int 2), (2, .int T)] := hl
  have X : Wd D A s.heap [(h, ctE z aw al), (aw, waE ty a0 a1 a2 a3), (a2, whE w2 m2), (m2, arE ty 5 f2), (al, loE fi lc t k v), (t, arE ty 40 lt), (k, arE ty 40 lk), (v, arE ty 40 lv)] s.heap [] := X
  refine lv_aload_n hx hb dX1_suspect_0 rfl (lv_at hl 0 rfl) ?_
  refine get_ct_0 C hK X 0 rfl fl_X1_11 dX1_suspect_1 ?_
  refine lv_iload_n hx hb dX1_suspect_4 rfl (lv_at hl 1 rfl) ?_
  refine s_aald (t0 := 2) (b := a2) C hK X 1 rfl rfl (vp_in_nI (n := 2) (by decide) (by decide)) rfl dX1_suspect_5 ?_
  refine lv_astore_n (lv' := [(3, .ref a2), (0, .ref h), (1, .int 2), (2, .int T)]) hx hb dX1_suspect_6 rfl hl (by decide) rfl (fun ls hl => ?_)
  refine lv_aload_n hx hb dX1_suspect_7 rfl (lv_at hl 0 rfl) ?_
  refine s_cV0i C hK hA X (c_X5_latest l D ty a2 m2 w2 f2 hk2) [2, 3] (pk_c rfl (pk_c rfl pk_n)) rfl ml_X5_latest wm_X1_102 (q0 := 0) rfl rfl rfl ⟨Nat.le_of_ble_eq_true rfl, Nat.le_of_ble_eq_true rfl⟩ ⟨Nat.zero_le _, Nat.zero_le _⟩ hl.1 rfl (Nat.le_of_ble_eq_true rfl) dX1_suspect_8 (fun H locs X => ?_)
  have J29_2 : ∀ (x1 : Int32) (ls : Array Slot) (H : Heap) (locs : List Loc), x1 = (v_X1_suspect_2_1 z w2 f2) → lv_has ls 5 [(3, .ref a2), (0, .ref h), (1, .int 2), (2, .int T)] → Wd D A s.heap [(h, ctE z aw al), (aw, waE ty a0 a1 a2 a3), (a2, whE w2 m2), (m2, arE ty 5 f2), (al, loE fi lc t k v), (t, arE ty 40 lt), (k, arE ty 40 lk), (v, arE ty 40 lv)] H locs → W p l e (rmD 1) s m args below meth c H locs 0 0 Q (F0 m 29 ls [.int x1]) := by
    intro x1 ls H locs ex1 hl X
    subst ex1
    refine lv_istore (lv' := [(4, .int (v_X1_suspect_2_1 z w2 f2)), (3, .ref a2), (0, .ref h), (1, .int 2), (2, .int T)]) hx hb dX1_suspect_29 hl (by decide) rfl (fun ls hl => ?_)
    refine lv_aload_n hx hb dX1_suspect_31 rfl (lv_at hl 1 rfl) ?_
    refine lv_iload hx hb dX1_suspect_32 (lv_at hl 0 rfl) ?_
    have J47_4 : ∀ (x3 : Int32) (ls : Array Slot) (H : Heap) (locs : List Loc), x3 = (v_X1_suspect_2_3 z w2 f2) → lv_has ls 5 [(4, .int (v_X1_suspect_2_1 z w2 f2)), (3, .ref a2), (0, .ref h), (1, .int 2), (2, .int T)] → Wd D A s.heap [(h, ctE z aw al), (aw, waE ty a0 a1 a2 a3), (a2, whE w2 m2), (m2, arE ty 5 f2), (al, loE fi lc t k v), (t, arE ty 40 lt), (k, arE ty 40 lk), (v, arE ty 40 lv)] H locs → W p l e (rmD 1) s m args below meth c H locs 0 0 Q (F0 m 47 ls [.int x3, .ref a2]) := by
      intro x3 ls H locs ex3 hl X
      subst ex3
      refine put_wh_7 C hK X 2 rfl pl_X1_96 dX1_suspect_47 (fun H locs X => ?_)
      have X : Wd D A s.heap [(h, ctE z aw al), (aw, waE ty a0 a1 a2 a3), (a2, whE (upd w2 8 (v_X1_suspect_2_3 z w2 f2)) m2), (m2, arE ty 5 f2), (al, loE fi lc t k v), (t, arE ty 40 lt), (k, arE ty 40 lk), (v, arE ty 40 lv)] H locs := X
      refine lv_aload_n hx hb dX1_suspect_50 rfl (lv_at hl 1 rfl) ?_
      refine get_wh_7 C hK X 2 rfl fl_X1_96 dX1_suspect_51 ?_
      refine s_eqi (y := (v_X1_suspect_2_3 z w2 f2)) pk_us ?_
      refine lv_bipush (v := 25) hx hb dX1_suspect_54 (by decide) ?_
      refine lv_icmp_ne (tgt := 74) hx hb dX1_suspect_56 (by decide) (fun c0_0 => ?_) (fun c0_0 => ?_)
      · have e_2_0 : (f_X1_suspect_2_a2 z w2 f2) = (upd w2 8 (v_X1_suspect_2_3 z w2 f2)) := by first | (rw [f_X1_suspect_2_a2, if_neg c0_0]; done) | (rw [f_X1_suspect_2_a2, if_neg c0_0]; rfl) | (simp only [f_X1_suspect_2_a2, if_neg c0_0]; done)
        have e_4_0 : (f_X1_suspect_2_al_fi fi lc z w2 f2) = fi := by first | (rw [f_X1_suspect_2_al_fi, if_neg c0_0]; done) | (rw [f_X1_suspect_2_al_fi, if_neg c0_0]; rfl) | (simp only [f_X1_suspect_2_al_fi, if_neg c0_0]; done)
        have e_4_1 : (f_X1_suspect_2_al_lc lc z w2 f2) = lc := by first | (rw [f_X1_suspect_2_al_lc, if_neg c0_0]; done) | (rw [f_X1_suspect_2_al_lc, if_neg c0_0]; rfl) | (simp only [f_X1_suspect_2_al_lc, if_neg c0_0]; done)
        have e_5_1 : (f_X1_suspect_2_t fi lc z w2 f2 lt T) = lt := by first | (rw [f_X1_suspect_2_t, if_neg c0_0]; done) | (rw [f_X1_suspect_2_t, if_neg c0_0]; rfl) | (simp only [f_X1_suspect_2_t, if_neg c0_0]; done)
        have e_6_1 : (f_X1_suspect_2_k fi lc z w2 f2 lk) = lk := by first | (rw [f_X1_suspect_2_k, if_neg c0_0]; done) | (rw [f_X1_suspect_2_k, if_neg c0_0]; rfl) | (simp only [f_X1_suspect_2_k, if_neg c0_0]; done)
        have e_7_1 : (f_X1_suspect_2_v fi lc z w2 f2 lv) = lv := by first | (rw [f_X1_suspect_2_v, if_neg c0_0]; done) | (rw [f_X1_suspect_2_v, if_neg c0_0]; rfl) | (simp only [f_X1_suspect_2_v, if_neg c0_0]; done)
        exact hret _ _ _ _ _ dX1_suspect_74 X (by rw [e_2_0, e_4_0, e_4_1, e_5_1, e_6_1, e_7_1])
      · refine lv_aload_n hx hb dX1_suspect_59 rfl (lv_at hl 1 rfl) ?_
        refine lv_iconst (v := 1) hx hb dX1_suspect_60 (by decide) ?_
        refine put_wh_8 C hK X 2 rfl pl_X1_93 isB1 dX1_suspect_61 (fun H locs X => ?_)
        have X : Wd D A s.heap [(h, ctE z aw al), (aw, waE ty a0 a1 a2 a3), (a2, whE (upd (upd w2 8 (v_X1_suspect_2_3 z w2 f2)) 7 1) m2), (m2, arE ty 5 f2), (al, loE fi lc t k v), (t, arE ty 40 lt), (k, arE ty 40 lk), (v, arE ty 40 lv)] H locs := X
        refine lv_aload_n hx hb dX1_suspect_64 rfl (lv_at hl 2 rfl) ?_
        refine get_ct_1 C hK X 0 rfl fl_X1_21 dX1_suspect_65 ?_
        refine lv_iload_n hx hb dX1_suspect_68 rfl (lv_at hl 4 rfl) ?_
        refine lv_iconst (v := 1) hx hb dX1_suspect_69 (by decide) ?_
        refine lv_iload_n hx hb dX1_suspect_70 rfl (lv_at hl 3 rfl) ?_
        refine s_cVv (ws' := [(h, ctE z aw al), (aw, waE ty a0 a1 a2 a3), (a2, whE (upd (upd w2 8 (v_X1_suspect_2_3 z w2 f2)) 7 1) m2), (m2, arE ty 5 f2), (al, loE (f_X2_add_h_fi fi lc) (f_X2_add_h_lc lc) t k v), (t, arE ty 40 (f_X2_add_t fi lc lt T)), (k, arE ty 40 (f_X2_add_k fi lc lk 1)), (v, arE ty 40 (f_X2_add_v fi lc lv 2))]) C hK hA X (c_X2_add l D ty al t k v fi lc lt lk lv T 1 2 hg) [4, 5, 6, 7] (pk_c rfl (pk_c rfl (pk_c rfl (pk_c rfl pk_n)))) rfl (pk_c rfl (pk_c rfl (pk_c rfl (pk_c rfl pk_n)))) (em_f (em_f (em_f (em_f (em_t (em_t (em_t (em_t em_n)))))))) rfl ml_X2_add wm_X1_120 (q0 := 0) rfl rfl rfl ⟨Nat.le_of_ble_eq_true rfl, Nat.le_of_ble_eq_true rfl⟩ ⟨Nat.zero_le _, Nat.zero_le _⟩ hl.1 rfl (Nat.le_of_ble_eq_true rfl) dX1_suspect_71 (fun H locs X => ?_)
        have e_2_0 : (f_X1_suspect_2_a2 z w2 f2) = (upd (upd w2 8 (v_X1_suspect_2_3 z w2 f2)) 7 1) := by first | (rw [f_X1_suspect_2_a2, if_pos c0_0]; done) | (rw [f_X1_suspect_2_a2, if_pos c0_0]; rfl) | (simp only [f_X1_suspect_2_a2, if_pos c0_0]; done)
        have e_4_0 : (f_X1_suspect_2_al_fi fi lc z w2 f2) = (f_X2_add_h_fi fi lc) := by first | (rw [f_X1_suspect_2_al_fi, if_pos c0_0]; done) | (rw [f_X1_suspect_2_al_fi, if_pos c0_0]; rfl) | (simp only [f_X1_suspect_2_al_fi, if_pos c0_0]; done)
        have e_4_1 : (f_X1_suspect_2_al_lc lc z w2 f2) = (f_X2_add_h_lc lc) := by first | (rw [f_X1_suspect_2_al_lc, if_pos c0_0]; done) | (rw [f_X1_suspect_2_al_lc, if_pos c0_0]; rfl) | (simp only [f_X1_suspect_2_al_lc, if_pos c0_0]; done)
        have e_5_1 : (f_X1_suspect_2_t fi lc z w2 f2 lt T) = (f_X2_add_t fi lc lt T) := by first | (rw [f_X1_suspect_2_t, if_pos c0_0]; done) | (rw [f_X1_suspect_2_t, if_pos c0_0]; rfl) | (simp only [f_X1_suspect_2_t, if_pos c0_0]; done)
        have e_6_1 : (f_X1_suspect_2_k fi lc z w2 f2 lk) = (f_X2_add_k fi lc lk 1) := by first | (rw [f_X1_suspect_2_k, if_pos c0_0]; done) | (rw [f_X1_suspect_2_k, if_pos c0_0]; rfl) | (simp only [f_X1_suspect_2_k, if_pos c0_0]; done)
        have e_7_1 : (f_X1_suspect_2_v fi lc z w2 f2 lv) = (f_X2_add_v fi lc lv 2) := by first | (rw [f_X1_suspect_2_v, if_pos c0_0]; done) | (rw [f_X1_suspect_2_v, if_pos c0_0]; rfl) | (simp only [f_X1_suspect_2_v, if_pos c0_0]; done)
        exact hret _ _ _ _ _ dX1_suspect_74 X (by rw [e_2_0, e_4_0, e_4_1, e_5_1, e_6_1, e_7_1])
    refine lv_if_eq (tgt := 46) hx hb dX1_suspect_34 (by decide) (fun c0_0 => ?_) (fun c0_0 => ?_)
    · refine lv_iconst (v := 0) hx hb dX1_suspect_46 (by decide) ?_
      exact J47_4 0 _ _ _ (by first | (rw [v_X1_suspect_2_3, if_pos c0_0]; done) | (rw [v_X1_suspect_2_3, if_pos c0_0]; rfl) | (simp only [v_X1_suspect_2_3, if_pos c0_0]; done)) (lv_sub hl [0, 1, 2, 3, 4] rfl) X
    · refine lv_aload_n hx hb dX1_suspect_37 rfl (lv_at hl 1 rfl) ?_
      refine get_wh_7 C hK X 2 rfl fl_X1_96 dX1_suspect_38 ?_
      refine lv_iconst (v := 1) hx hb dX1_suspect_41 (by decide) ?_
      refine lv_iadd hx hb dX1_suspect_42 ?_
      refine lv_goto (tgt := 47) hx hb dX1_suspect_43 (by decide) ?_
      exact J47_4 ((w2 8) + 1) _ _ _ (by first | (rw [v_X1_suspect_2_3, if_neg c0_0]; done) | (rw [v_X1_suspect_2_3, if_neg c0_0]; rfl) | (simp only [v_X1_suspect_2_3, if_neg c0_0]; done)) (lv_sub hl [0, 1, 2, 3, 4] rfl) X
  refine lv_if_ne (tgt := 28) hx hb dX1_suspect_11 (by decide) (fun c0_0 => ?_) (fun c0_0 => ?_)
  · refine lv_iconst (v := 0) hx hb dX1_suspect_28 (by decide) ?_
    exact J29_2 0 _ _ _ (by first | (rw [v_X1_suspect_2_1, if_neg c0_0]; done) | (rw [v_X1_suspect_2_1, if_neg c0_0]; rfl) | (simp only [v_X1_suspect_2_1, if_neg c0_0]; done)) (lv_sub hl [0, 1, 2, 3] rfl) X
  · refine lv_aload_n hx hb dX1_suspect_14 rfl (lv_at hl 1 rfl) ?_
    refine get_ct_3 C hK X 0 rfl fl_X1_42 dX1_suspect_15 ?_
    refine lv_sipush (v := 3000) hx hb dX1_suspect_18 (by decide) ?_
    refine lv_icmp_lt (tgt := 28) hx hb dX1_suspect_21 (by decide) (fun c1_1 => ?_) (fun c1_1 => ?_)
    · refine lv_iconst (v := 0) hx hb dX1_suspect_28 (by decide) ?_
      exact J29_2 0 _ _ _ (by first | (rw [v_X1_suspect_2_1, if_pos c0_0, if_pos c1_1]; done) | (rw [v_X1_suspect_2_1, if_pos c0_0, if_pos c1_1]; rfl) | (simp only [v_X1_suspect_2_1, if_pos c0_0, if_pos c1_1]; done)) (lv_sub hl [0, 1, 2, 3] rfl) X
    · refine lv_iconst (v := 1) hx hb dX1_suspect_24 (by decide) ?_
      refine lv_goto (tgt := 29) hx hb dX1_suspect_25 (by decide) ?_
      exact J29_2 1 _ _ _ (by first | (rw [v_X1_suspect_2_1, if_pos c0_0, if_neg c1_1]; done) | (rw [v_X1_suspect_2_1, if_pos c0_0, if_neg c1_1]; rfl) | (simp only [v_X1_suspect_2_1, if_pos c0_0, if_neg c1_1]; done)) (lv_sub hl [0, 1, 2, 3] rfl) X
def v_X1_suspect_3_1 (z : F1) (w3 : F1) (f3 : F1) : Int32 := (if (f_X5_latest w3 f3) = 0 then (if (z 0) < 3000 then 0 else 1) else 0)
def v_X1_suspect_3_3 (z : F1) (w3 : F1) (f3 : F1) : Int32 := (if (v_X1_suspect_3_1 z w3 f3) = 0 then 0 else ((w3 8) + 1))
def f_X1_suspect_3_a3 (z : F1) (w3 : F1) (f3 : F1) : F1 := (if (v_X1_suspect_3_3 z w3 f3) = 25 then (upd (upd w3 8 (v_X1_suspect_3_3 z w3 f3)) 7 1) else (upd w3 8 (v_X1_suspect_3_3 z w3 f3)))
def f_X1_suspect_3_al_fi (fi : Nat) (lc : Nat) (z : F1) (w3 : F1) (f3 : F1) : Nat := (if (v_X1_suspect_3_3 z w3 f3) = 25 then (f_X2_add_h_fi fi lc) else fi)
def f_X1_suspect_3_al_lc (lc : Nat) (z : F1) (w3 : F1) (f3 : F1) : Nat := (if (v_X1_suspect_3_3 z w3 f3) = 25 then (f_X2_add_h_lc lc) else lc)
def f_X1_suspect_3_t (fi : Nat) (lc : Nat) (z : F1) (w3 : F1) (f3 : F1) (lt : F1) (T : Int32) : F1 := (if (v_X1_suspect_3_3 z w3 f3) = 25 then (f_X2_add_t fi lc lt T) else lt)
def f_X1_suspect_3_k (fi : Nat) (lc : Nat) (z : F1) (w3 : F1) (f3 : F1) (lk : F1) : F1 := (if (v_X1_suspect_3_3 z w3 f3) = 25 then (f_X2_add_k fi lc lk 1) else lk)
def f_X1_suspect_3_v (fi : Nat) (lc : Nat) (z : F1) (w3 : F1) (f3 : F1) (lv : F1) : F1 := (if (v_X1_suspect_3_3 z w3 f3) = 25 then (f_X2_add_v fi lc lv 3) else lv)
theorem ok_X1_suspect_3_a3 (z : F1) (w3 : F1) (f3 : F1) (hk3 : kpOK w3) : kpOK (f_X1_suspect_3_a3 z w3 f3) := by
  by_cases k0 : (v_X1_suspect_3_3 z w3 f3) = 25
  · (try simp only [f_X1_suspect_3_a3, if_pos k0]); exact (kp_upd (kp_upd hk3))
  · (try simp only [f_X1_suspect_3_a3, if_neg k0]); exact (kp_upd hk3)
theorem ok_X1_suspect_3_al (fi : Nat) (lc : Nat) (z : F1) (w3 : F1) (f3 : F1) (hg : lgOK fi lc) : lgOK (f_X1_suspect_3_al_fi fi lc z w3 f3) (f_X1_suspect_3_al_lc lc z w3 f3) := by
  by_cases k0 : (v_X1_suspect_3_3 z w3 f3) = 25
  · (try simp only [f_X1_suspect_3_al_fi, f_X1_suspect_3_al_lc, if_pos k0]); exact (ok_X2_add_h fi lc hg)
  · (try simp only [f_X1_suspect_3_al_fi, f_X1_suspect_3_al_lc, if_neg k0]); exact hg
set_option maxHeartbeats 4000000 in
set_option maxRecDepth 100000 in
theorem c_X1_suspect_3 (l : Launch) (D : va_G) (ty : Nat → ClassId) (h : Nat) (aw : Nat) (al : Nat) (a0 : Nat) (a1 : Nat) (a2 : Nat) (a3 : Nat) (m3 : Nat) (t : Nat) (k : Nat) (v : Nat) (fi : Nat) (lc : Nat) (z : F1) (w3 : F1) (f3 : F1) (lt : F1) (lk : F1) (lv : F1) (T : Int32) (hk3 : kpOK w3) (hg : lgOK fi lc) : MC l D ty yX1_suspect cX1_suspect 5 none 1 [.ref h, .int 3, .int T] [(h, ctE z aw al), (aw, waE ty a0 a1 a2 a3), (a3, whE w3 m3), (m3, arE ty 5 f3), (al, loE fi lc t k v), (t, arE ty 40 lt), (k, arE ty 40 lk), (v, arE ty 40 lv)] none [(h, ctE z aw al), (aw, waE ty a0 a1 a2 a3), (a3, whE (f_X1_suspect_3_a3 z w3 f3) m3), (m3, arE ty 5 f3), (al, loE (f_X1_suspect_3_al_fi fi lc z w3 f3) (f_X1_suspect_3_al_lc lc z w3 f3) t k v), (t, arE ty 40 (f_X1_suspect_3_t fi lc z w3 f3 lt T)), (k, arE ty 40 (f_X1_suspect_3_k fi lc z w3 f3 lk)), (v, arE ty 40 (f_X1_suspect_3_v fi lc z w3 f3 lv))] := by
  refine mc_v (by decide +kernel) (Nat.le_of_ble_eq_true rfl) ?_
  intro p e s m args below meth c A Q ls C hK hA X hret hl
  have hx := C.1
  have hb := C.2.1
  have hl : lv_has ls 5 [(0, .ref h), (1, .int 3), (2, .int T)] := hl
  have X : Wd D A s.heap [(h, ctE z aw al), (aw, waE ty a0 a1 a2 a3), (a3, whE w3 m3), (m3, arE ty 5 f3), (al, loE fi lc t k v), (t, arE ty 40 lt), (k, arE ty 40 lk), (v, arE ty 40 lv)] s.heap [] := X
  refine lv_aload_n hx hb dX1_suspect_0 rfl (lv_at hl 0 rfl) ?_
  refine get_ct_0 C hK X 0 rfl fl_X1_11 dX1_suspect_1 ?_
  refine lv_iload_n hx hb dX1_suspect_4 rfl (lv_at hl 1 rfl) ?_
  refine s_aald (t0 := 2) (b := a3) C hK X 1 rfl rfl (vp_in_nI (n := 3) (by decide) (by decide)) rfl dX1_suspect_5 ?_
  refine lv_astore_n (lv' := [(3, .ref a3), (0, .ref h), (1, .int 3), (2, .int T)]) hx hb dX1_suspect_6 rfl hl (by decide) rfl (fun ls hl => ?_)
  refine lv_aload_n hx hb dX1_suspect_7 rfl (lv_at hl 0 rfl) ?_
  refine s_cV0i C hK hA X (c_X5_latest l D ty a3 m3 w3 f3 hk3) [2, 3] (pk_c rfl (pk_c rfl pk_n)) rfl ml_X5_latest wm_X1_102 (q0 := 0) rfl rfl rfl ⟨Nat.le_of_ble_eq_true rfl, Nat.le_of_ble_eq_true rfl⟩ ⟨Nat.zero_le _, Nat.zero_le _⟩ hl.1 rfl (Nat.le_of_ble_eq_true rfl) dX1_suspect_8 (fun H locs X => ?_)
  have J29_2 : ∀ (x1 : Int32) (ls : Array Slot) (H : Heap) (locs : List Loc), x1 = (v_X1_suspect_3_1 z w3 f3) → lv_has ls 5 [(3, .ref a3), (0, .ref h), (1, .int 3), (2, .int T)] → Wd D A s.heap [(h, ctE z aw al), (aw, waE ty a0 a1 a2 a3), (a3, whE w3 m3), (m3, arE ty 5 f3), (al, loE fi lc t k v), (t, arE ty 40 lt), (k, arE ty 40 lk), (v, arE ty 40 lv)] H locs → W p l e (rmD 1) s m args below meth c H locs 0 0 Q (F0 m 29 ls [.int x1]) := by
    intro x1 ls H locs ex1 hl X
    subst ex1
    refine lv_istore (lv' := [(4, .int (v_X1_suspect_3_1 z w3 f3)), (3, .ref a3), (0, .ref h), (1, .int 3), (2, .int T)]) hx hb dX1_suspect_29 hl (by decide) rfl (fun ls hl => ?_)
    refine lv_aload_n hx hb dX1_suspect_31 rfl (lv_at hl 1 rfl) ?_
    refine lv_iload hx hb dX1_suspect_32 (lv_at hl 0 rfl) ?_
    have J47_4 : ∀ (x3 : Int32) (ls : Array Slot) (H : Heap) (locs : List Loc), x3 = (v_X1_suspect_3_3 z w3 f3) → lv_has ls 5 [(4, .int (v_X1_suspect_3_1 z w3 f3)), (3, .ref a3), (0, .ref h), (1, .int 3), (2, .int T)] → Wd D A s.heap [(h, ctE z aw al), (aw, waE ty a0 a1 a2 a3), (a3, whE w3 m3), (m3, arE ty 5 f3), (al, loE fi lc t k v), (t, arE ty 40 lt), (k, arE ty 40 lk), (v, arE ty 40 lv)] H locs → W p l e (rmD 1) s m args below meth c H locs 0 0 Q (F0 m 47 ls [.int x3, .ref a3]) := by
      intro x3 ls H locs ex3 hl X
      subst ex3
      refine put_wh_7 C hK X 2 rfl pl_X1_96 dX1_suspect_47 (fun H locs X => ?_)
      have X : Wd D A s.heap [(h, ctE z aw al), (aw, waE ty a0 a1 a2 a3), (a3, whE (upd w3 8 (v_X1_suspect_3_3 z w3 f3)) m3), (m3, arE ty 5 f3), (al, loE fi lc t k v), (t, arE ty 40 lt), (k, arE ty 40 lk), (v, arE ty 40 lv)] H locs := X
      refine lv_aload_n hx hb dX1_suspect_50 rfl (lv_at hl 1 rfl) ?_
      refine get_wh_7 C hK X 2 rfl fl_X1_96 dX1_suspect_51 ?_
      refine s_eqi (y := (v_X1_suspect_3_3 z w3 f3)) pk_us ?_
      refine lv_bipush (v := 25) hx hb dX1_suspect_54 (by decide) ?_
      refine lv_icmp_ne (tgt := 74) hx hb dX1_suspect_56 (by decide) (fun c0_0 => ?_) (fun c0_0 => ?_)
      · have e_2_0 : (f_X1_suspect_3_a3 z w3 f3) = (upd w3 8 (v_X1_suspect_3_3 z w3 f3)) := by first | (rw [f_X1_suspect_3_a3, if_neg c0_0]; done) | (rw [f_X1_suspect_3_a3, if_neg c0_0]; rfl) | (simp only [f_X1_suspect_3_a3, if_neg c0_0]; done)
        have e_4_0 : (f_X1_suspect_3_al_fi fi lc z w3 f3) = fi := by first | (rw [f_X1_suspect_3_al_fi, if_neg c0_0]; done) | (rw [f_X1_suspect_3_al_fi, if_neg c0_0]; rfl) | (simp only [f_X1_suspect_3_al_fi, if_neg c0_0]; done)
        have e_4_1 : (f_X1_suspect_3_al_lc lc z w3 f3) = lc := by first | (rw [f_X1_suspect_3_al_lc, if_neg c0_0]; done) | (rw [f_X1_suspect_3_al_lc, if_neg c0_0]; rfl) | (simp only [f_X1_suspect_3_al_lc, if_neg c0_0]; done)
        have e_5_1 : (f_X1_suspect_3_t fi lc z w3 f3 lt T) = lt := by first | (rw [f_X1_suspect_3_t, if_neg c0_0]; done) | (rw [f_X1_suspect_3_t, if_neg c0_0]; rfl) | (simp only [f_X1_suspect_3_t, if_neg c0_0]; done)
        have e_6_1 : (f_X1_suspect_3_k fi lc z w3 f3 lk) = lk := by first | (rw [f_X1_suspect_3_k, if_neg c0_0]; done) | (rw [f_X1_suspect_3_k, if_neg c0_0]; rfl) | (simp only [f_X1_suspect_3_k, if_neg c0_0]; done)
        have e_7_1 : (f_X1_suspect_3_v fi lc z w3 f3 lv) = lv := by first | (rw [f_X1_suspect_3_v, if_neg c0_0]; done) | (rw [f_X1_suspect_3_v, if_neg c0_0]; rfl) | (simp only [f_X1_suspect_3_v, if_neg c0_0]; done)
        exact hret _ _ _ _ _ dX1_suspect_74 X (by rw [e_2_0, e_4_0, e_4_1, e_5_1, e_6_1, e_7_1])
      · refine lv_aload_n hx hb dX1_suspect_59 rfl (lv_at hl 1 rfl) ?_
        refine lv_iconst (v := 1) hx hb dX1_suspect_60 (by decide) ?_
        refine put_wh_8 C hK X 2 rfl pl_X1_93 isB1 dX1_suspect_61 (fun H locs X => ?_)
        have X : Wd D A s.heap [(h, ctE z aw al), (aw, waE ty a0 a1 a2 a3), (a3, whE (upd (upd w3 8 (v_X1_suspect_3_3 z w3 f3)) 7 1) m3), (m3, arE ty 5 f3), (al, loE fi lc t k v), (t, arE ty 40 lt), (k, arE ty 40 lk), (v, arE ty 40 lv)] H locs := X
        refine lv_aload_n hx hb dX1_suspect_64 rfl (lv_at hl 2 rfl) ?_
        refine get_ct_1 C hK X 0 rfl fl_X1_21 dX1_suspect_65 ?_
        refine lv_iload_n hx hb dX1_suspect_68 rfl (lv_at hl 4 rfl) ?_
        refine lv_iconst (v := 1) hx hb dX1_suspect_69 (by decide) ?_
        refine lv_iload_n hx hb dX1_suspect_70 rfl (lv_at hl 3 rfl) ?_
        refine s_cVv (ws' := [(h, ctE z aw al), (aw, waE ty a0 a1 a2 a3), (a3, whE (upd (upd w3 8 (v_X1_suspect_3_3 z w3 f3)) 7 1) m3), (m3, arE ty 5 f3), (al, loE (f_X2_add_h_fi fi lc) (f_X2_add_h_lc lc) t k v), (t, arE ty 40 (f_X2_add_t fi lc lt T)), (k, arE ty 40 (f_X2_add_k fi lc lk 1)), (v, arE ty 40 (f_X2_add_v fi lc lv 3))]) C hK hA X (c_X2_add l D ty al t k v fi lc lt lk lv T 1 3 hg) [4, 5, 6, 7] (pk_c rfl (pk_c rfl (pk_c rfl (pk_c rfl pk_n)))) rfl (pk_c rfl (pk_c rfl (pk_c rfl (pk_c rfl pk_n)))) (em_f (em_f (em_f (em_f (em_t (em_t (em_t (em_t em_n)))))))) rfl ml_X2_add wm_X1_120 (q0 := 0) rfl rfl rfl ⟨Nat.le_of_ble_eq_true rfl, Nat.le_of_ble_eq_true rfl⟩ ⟨Nat.zero_le _, Nat.zero_le _⟩ hl.1 rfl (Nat.le_of_ble_eq_true rfl) dX1_suspect_71 (fun H locs X => ?_)
        have e_2_0 : (f_X1_suspect_3_a3 z w3 f3) = (upd (upd w3 8 (v_X1_suspect_3_3 z w3 f3)) 7 1) := by first | (rw [f_X1_suspect_3_a3, if_pos c0_0]; done) | (rw [f_X1_suspect_3_a3, if_pos c0_0]; rfl) | (simp only [f_X1_suspect_3_a3, if_pos c0_0]; done)
        have e_4_0 : (f_X1_suspect_3_al_fi fi lc z w3 f3) = (f_X2_add_h_fi fi lc) := by first | (rw [f_X1_suspect_3_al_fi, if_pos c0_0]; done) | (rw [f_X1_suspect_3_al_fi, if_pos c0_0]; rfl) | (simp only [f_X1_suspect_3_al_fi, if_pos c0_0]; done)
        have e_4_1 : (f_X1_suspect_3_al_lc lc z w3 f3) = (f_X2_add_h_lc lc) := by first | (rw [f_X1_suspect_3_al_lc, if_pos c0_0]; done) | (rw [f_X1_suspect_3_al_lc, if_pos c0_0]; rfl) | (simp only [f_X1_suspect_3_al_lc, if_pos c0_0]; done)
        have e_5_1 : (f_X1_suspect_3_t fi lc z w3 f3 lt T) = (f_X2_add_t fi lc lt T) := by first | (rw [f_X1_suspect_3_t, if_pos c0_0]; done) | (rw [f_X1_suspect_3_t, if_pos c0_0]; rfl) | (simp only [f_X1_suspect_3_t, if_pos c0_0]; done)
        have e_6_1 : (f_X1_suspect_3_k fi lc z w3 f3 lk) = (f_X2_add_k fi lc lk 1) := by first | (rw [f_X1_suspect_3_k, if_pos c0_0]; done) | (rw [f_X1_suspect_3_k, if_pos c0_0]; rfl) | (simp only [f_X1_suspect_3_k, if_pos c0_0]; done)
        have e_7_1 : (f_X1_suspect_3_v fi lc z w3 f3 lv) = (f_X2_add_v fi lc lv 3) := by first | (rw [f_X1_suspect_3_v, if_pos c0_0]; done) | (rw [f_X1_suspect_3_v, if_pos c0_0]; rfl) | (simp only [f_X1_suspect_3_v, if_pos c0_0]; done)
        exact hret _ _ _ _ _ dX1_suspect_74 X (by rw [e_2_0, e_4_0, e_4_1, e_5_1, e_6_1, e_7_1])
    refine lv_if_eq (tgt := 46) hx hb dX1_suspect_34 (by decide) (fun c0_0 => ?_) (fun c0_0 => ?_)
    · refine lv_iconst (v := 0) hx hb dX1_suspect_46 (by decide) ?_
      exact J47_4 0 _ _ _ (by first | (rw [v_X1_suspect_3_3, if_pos c0_0]; done) | (rw [v_X1_suspect_3_3, if_pos c0_0]; rfl) | (simp only [v_X1_suspect_3_3, if_pos c0_0]; done)) (lv_sub hl [0, 1, 2, 3, 4] rfl) X
    · refine lv_aload_n hx hb dX1_suspect_37 rfl (lv_at hl 1 rfl) ?_
      refine get_wh_7 C hK X 2 rfl fl_X1_96 dX1_suspect_38 ?_
      refine lv_iconst (v := 1) hx hb dX1_suspect_41 (by decide) ?_
      refine lv_iadd hx hb dX1_suspect_42 ?_
      refine lv_goto (tgt := 47) hx hb dX1_suspect_43 (by decide) ?_
      exact J47_4 ((w3 8) + 1) _ _ _ (by first | (rw [v_X1_suspect_3_3, if_neg c0_0]; done) | (rw [v_X1_suspect_3_3, if_neg c0_0]; rfl) | (simp only [v_X1_suspect_3_3, if_neg c0_0]; done)) (lv_sub hl [0, 1, 2, 3, 4] rfl) X
  refine lv_if_ne (tgt := 28) hx hb dX1_suspect_11 (by decide) (fun c0_0 => ?_) (fun c0_0 => ?_)
  · refine lv_iconst (v := 0) hx hb dX1_suspect_28 (by decide) ?_
    exact J29_2 0 _ _ _ (by first | (rw [v_X1_suspect_3_1, if_neg c0_0]; done) | (rw [v_X1_suspect_3_1, if_neg c0_0]; rfl) | (simp only [v_X1_suspect_3_1, if_neg c0_0]; done)) (lv_sub hl [0, 1, 2, 3] rfl) X
  · refine lv_aload_n hx hb dX1_suspect_14 rfl (lv_at hl 1 rfl) ?_
    refine get_ct_3 C hK X 0 rfl fl_X1_42 dX1_suspect_15 ?_
    refine lv_sipush (v := 3000) hx hb dX1_suspect_18 (by decide) ?_
    refine lv_icmp_lt (tgt := 28) hx hb dX1_suspect_21 (by decide) (fun c1_1 => ?_) (fun c1_1 => ?_)
    · refine lv_iconst (v := 0) hx hb dX1_suspect_28 (by decide) ?_
      exact J29_2 0 _ _ _ (by first | (rw [v_X1_suspect_3_1, if_pos c0_0, if_pos c1_1]; done) | (rw [v_X1_suspect_3_1, if_pos c0_0, if_pos c1_1]; rfl) | (simp only [v_X1_suspect_3_1, if_pos c0_0, if_pos c1_1]; done)) (lv_sub hl [0, 1, 2, 3] rfl) X
    · refine lv_iconst (v := 1) hx hb dX1_suspect_24 (by decide) ?_
      refine lv_goto (tgt := 29) hx hb dX1_suspect_25 (by decide) ?_
      exact J29_2 1 _ _ _ (by first | (rw [v_X1_suspect_3_1, if_pos c0_0, if_neg c1_1]; done) | (rw [v_X1_suspect_3_1, if_pos c0_0, if_neg c1_1]; rfl) | (simp only [v_X1_suspect_3_1, if_pos c0_0, if_neg c1_1]; done)) (lv_sub hl [0, 1, 2, 3] rfl) X
def v_X1_suspectWheels_1 (z : F1) (w0 : F1) (f0 : F1) : F1 := (if (w0 7) = 0 then (f_X1_suspect_0_a0 z w0 f0) else w0)
def v_X1_suspectWheels_2 (fi : Nat) (lc : Nat) (z : F1) (w0 : F1) (f0 : F1) : Nat := (if (w0 7) = 0 then (f_X1_suspect_0_al_fi fi lc z w0 f0) else fi)
def v_X1_suspectWheels_3 (lc : Nat) (z : F1) (w0 : F1) (f0 : F1) : Nat := (if (w0 7) = 0 then (f_X1_suspect_0_al_lc lc z w0 f0) else lc)
def v_X1_suspectWheels_4 (fi : Nat) (lc : Nat) (z : F1) (w0 : F1) (f0 : F1) (lt : F1) (T : Int32) : F1 := (if (w0 7) = 0 then (f_X1_suspect_0_t fi lc z w0 f0 lt T) else lt)
def v_X1_suspectWheels_5 (fi : Nat) (lc : Nat) (z : F1) (w0 : F1) (f0 : F1) (lk : F1) : F1 := (if (w0 7) = 0 then (f_X1_suspect_0_k fi lc z w0 f0 lk) else lk)
def v_X1_suspectWheels_6 (fi : Nat) (lc : Nat) (z : F1) (w0 : F1) (f0 : F1) (lv : F1) : F1 := (if (w0 7) = 0 then (f_X1_suspect_0_v fi lc z w0 f0 lv) else lv)
theorem okm_X1_suspectWheels_7 (z : F1) (w0 : F1) (f0 : F1) (hk0 : kpOK w0) : kpOK (v_X1_suspectWheels_1 z w0 f0) := by
  by_cases k0 : (w0 7) = 0
  · (try simp only [v_X1_suspectWheels_1, if_pos k0]); exact (ok_X1_suspect_0_a0 z w0 f0 hk0)
  · (try simp only [v_X1_suspectWheels_1, if_neg k0]); exact hk0
theorem okm_X1_suspectWheels_8 (fi : Nat) (lc : Nat) (z : F1) (w0 : F1) (f0 : F1) (hg : lgOK fi lc) : lgOK (v_X1_suspectWheels_2 fi lc z w0 f0) (v_X1_suspectWheels_3 lc z w0 f0) := by
  by_cases k0 : (w0 7) = 0
  · (try simp only [v_X1_suspectWheels_2, v_X1_suspectWheels_3, if_pos k0]); exact (ok_X1_suspect_0_al fi lc z w0 f0 hg)
  · (try simp only [v_X1_suspectWheels_2, v_X1_suspectWheels_3, if_neg k0]); exact hg
def v_X1_suspectWheels_10 (fi : Nat) (lc : Nat) (z : F1) (w0 : F1) (w1 : F1) (f0 : F1) (f1 : F1) : Nat := (f_X1_suspect_1_al_fi (v_X1_suspectWheels_2 fi lc z w0 f0) (v_X1_suspectWheels_3 lc z w0 f0) z w1 f1)
theorem okm_X1_suspectWheels_11 (fi : Nat) (lc : Nat) (z : F1) (w0 : F1) (w1 : F1) (f0 : F1) (f1 : F1) (hg : lgOK fi lc) : lgOK (v_X1_suspectWheels_10 fi lc z w0 w1 f0 f1) (f_X1_suspect_1_al_lc (v_X1_suspectWheels_3 lc z w0 f0) z w1 f1) := by
  exact (ok_X1_suspect_1_al (v_X1_suspectWheels_2 fi lc z w0 f0) (v_X1_suspectWheels_3 lc z w0 f0) z w1 f1 (okm_X1_suspectWheels_8 fi lc z w0 f0 hg))
def v_X1_suspectWheels_12 (fi : Nat) (lc : Nat) (z : F1) (w0 : F1) (w1 : F1) (f0 : F1) (f1 : F1) (lt : F1) (T : Int32) : F1 := (f_X1_suspect_1_t (v_X1_suspectWheels_2 fi lc z w0 f0) (v_X1_suspectWheels_3 lc z w0 f0) z w1 f1 (v_X1_suspectWheels_4 fi lc z w0 f0 lt T) T)
def v_X1_suspectWheels_13 (fi : Nat) (lc : Nat) (z : F1) (w0 : F1) (w1 : F1) (f0 : F1) (f1 : F1) (lk : F1) : F1 := (f_X1_suspect_1_k (v_X1_suspectWheels_2 fi lc z w0 f0) (v_X1_suspectWheels_3 lc z w0 f0) z w1 f1 (v_X1_suspectWheels_5 fi lc z w0 f0 lk))
def v_X1_suspectWheels_14 (fi : Nat) (lc : Nat) (z : F1) (w0 : F1) (w1 : F1) (f0 : F1) (f1 : F1) (lv : F1) : F1 := (f_X1_suspect_1_v (v_X1_suspectWheels_2 fi lc z w0 f0) (v_X1_suspectWheels_3 lc z w0 f0) z w1 f1 (v_X1_suspectWheels_6 fi lc z w0 f0 lv))
def v_X1_suspectWheels_15 (z : F1) (w1 : F1) (f1 : F1) : F1 := (if (w1 7) = 0 then (f_X1_suspect_1_a1 z w1 f1) else w1)
def v_X1_suspectWheels_16 (fi : Nat) (lc : Nat) (z : F1) (w0 : F1) (w1 : F1) (f0 : F1) (f1 : F1) : Nat := (if (w1 7) = 0 then (v_X1_suspectWheels_10 fi lc z w0 w1 f0 f1) else (v_X1_suspectWheels_2 fi lc z w0 f0))
def v_X1_suspectWheels_17 (lc : Nat) (z : F1) (w0 : F1) (w1 : F1) (f0 : F1) (f1 : F1) : Nat := (if (w1 7) = 0 then (f_X1_suspect_1_al_lc (v_X1_suspectWheels_3 lc z w0 f0) z w1 f1) else (v_X1_suspectWheels_3 lc z w0 f0))
def v_X1_suspectWheels_18 (fi : Nat) (lc : Nat) (z : F1) (w0 : F1) (w1 : F1) (f0 : F1) (f1 : F1) (lt : F1) (T : Int32) : F1 := (if (w1 7) = 0 then (v_X1_suspectWheels_12 fi lc z w0 w1 f0 f1 lt T) else (v_X1_suspectWheels_4 fi lc z w0 f0 lt T))
def v_X1_suspectWheels_19 (fi : Nat) (lc : Nat) (z : F1) (w0 : F1) (w1 : F1) (f0 : F1) (f1 : F1) (lk : F1) : F1 := (if (w1 7) = 0 then (v_X1_suspectWheels_13 fi lc z w0 w1 f0 f1 lk) else (v_X1_suspectWheels_5 fi lc z w0 f0 lk))
def v_X1_suspectWheels_20 (fi : Nat) (lc : Nat) (z : F1) (w0 : F1) (w1 : F1) (f0 : F1) (f1 : F1) (lv : F1) : F1 := (if (w1 7) = 0 then (v_X1_suspectWheels_14 fi lc z w0 w1 f0 f1 lv) else (v_X1_suspectWheels_6 fi lc z w0 f0 lv))
theorem okm_X1_suspectWheels_21 (z : F1) (w1 : F1) (f1 : F1) (hk1 : kpOK w1) : kpOK (v_X1_suspectWheels_15 z w1 f1) := by
  by_cases k0 : (w1 7) = 0
  · (try simp only [v_X1_suspectWheels_15, if_pos k0]); exact (ok_X1_suspect_1_a1 z w1 f1 hk1)
  · (try simp only [v_X1_suspectWheels_15, if_neg k0]); exact hk1
theorem okm_X1_suspectWheels_22 (fi : Nat) (lc : Nat) (z : F1) (w0 : F1) (w1 : F1) (f0 : F1) (f1 : F1) (hg : lgOK fi lc) : lgOK (v_X1_suspectWheels_16 fi lc z w0 w1 f0 f1) (v_X1_suspectWheels_17 lc z w0 w1 f0 f1) := by
  by_cases k0 : (w1 7) = 0
  · (try simp only [v_X1_suspectWheels_16, v_X1_suspectWheels_17, if_pos k0]); exact (okm_X1_suspectWheels_11 fi lc z w0 w1 f0 f1 hg)
  · (try simp only [v_X1_suspectWheels_16, v_X1_suspectWheels_17, if_neg k0]); exact (okm_X1_suspectWheels_8 fi lc z w0 f0 hg)
def v_X1_suspectWheels_24 (fi : Nat) (lc : Nat) (z : F1) (w0 : F1) (w1 : F1) (w2 : F1) (f0 : F1) (f1 : F1) (f2 : F1) : Nat := (f_X1_suspect_2_al_fi (v_X1_suspectWheels_16 fi lc z w0 w1 f0 f1) (v_X1_suspectWheels_17 lc z w0 w1 f0 f1) z w2 f2)
theorem okm_X1_suspectWheels_25 (fi : Nat) (lc : Nat) (z : F1) (w0 : F1) (w1 : F1) (w2 : F1) (f0 : F1) (f1 : F1) (f2 : F1) (hg : lgOK fi lc) : lgOK (v_X1_suspectWheels_24 fi lc z w0 w1 w2 f0 f1 f2) (f_X1_suspect_2_al_lc (v_X1_suspectWheels_17 lc z w0 w1 f0 f1) z w2 f2) := by
  exact (ok_X1_suspect_2_al (v_X1_suspectWheels_16 fi lc z w0 w1 f0 f1) (v_X1_suspectWheels_17 lc z w0 w1 f0 f1) z w2 f2 (okm_X1_suspectWheels_22 fi lc z w0 w1 f0 f1 hg))
def v_X1_suspectWheels_26 (fi : Nat) (lc : Nat) (z : F1) (w0 : F1) (w1 : F1) (w2 : F1) (f0 : F1) (f1 : F1) (f2 : F1) (lt : F1) (T : Int32) : F1 := (f_X1_suspect_2_t (v_X1_suspectWheels_16 fi lc z w0 w1 f0 f1) (v_X1_suspectWheels_17 lc z w0 w1 f0 f1) z w2 f2 (v_X1_suspectWheels_18 fi lc z w0 w1 f0 f1 lt T) T)
def v_X1_suspectWheels_27 (fi : Nat) (lc : Nat) (z : F1) (w0 : F1) (w1 : F1) (w2 : F1) (f0 : F1) (f1 : F1) (f2 : F1) (lk : F1) : F1 := (f_X1_suspect_2_k (v_X1_suspectWheels_16 fi lc z w0 w1 f0 f1) (v_X1_suspectWheels_17 lc z w0 w1 f0 f1) z w2 f2 (v_X1_suspectWheels_19 fi lc z w0 w1 f0 f1 lk))
def v_X1_suspectWheels_28 (fi : Nat) (lc : Nat) (z : F1) (w0 : F1) (w1 : F1) (w2 : F1) (f0 : F1) (f1 : F1) (f2 : F1) (lv : F1) : F1 := (f_X1_suspect_2_v (v_X1_suspectWheels_16 fi lc z w0 w1 f0 f1) (v_X1_suspectWheels_17 lc z w0 w1 f0 f1) z w2 f2 (v_X1_suspectWheels_20 fi lc z w0 w1 f0 f1 lv))
def v_X1_suspectWheels_29 (z : F1) (w2 : F1) (f2 : F1) : F1 := (if (w2 7) = 0 then (f_X1_suspect_2_a2 z w2 f2) else w2)
def v_X1_suspectWheels_30 (fi : Nat) (lc : Nat) (z : F1) (w0 : F1) (w1 : F1) (w2 : F1) (f0 : F1) (f1 : F1) (f2 : F1) : Nat := (if (w2 7) = 0 then (v_X1_suspectWheels_24 fi lc z w0 w1 w2 f0 f1 f2) else (v_X1_suspectWheels_16 fi lc z w0 w1 f0 f1))
def v_X1_suspectWheels_31 (lc : Nat) (z : F1) (w0 : F1) (w1 : F1) (w2 : F1) (f0 : F1) (f1 : F1) (f2 : F1) : Nat := (if (w2 7) = 0 then (f_X1_suspect_2_al_lc (v_X1_suspectWheels_17 lc z w0 w1 f0 f1) z w2 f2) else (v_X1_suspectWheels_17 lc z w0 w1 f0 f1))
def v_X1_suspectWheels_32 (fi : Nat) (lc : Nat) (z : F1) (w0 : F1) (w1 : F1) (w2 : F1) (f0 : F1) (f1 : F1) (f2 : F1) (lt : F1) (T : Int32) : F1 := (if (w2 7) = 0 then (v_X1_suspectWheels_26 fi lc z w0 w1 w2 f0 f1 f2 lt T) else (v_X1_suspectWheels_18 fi lc z w0 w1 f0 f1 lt T))
def v_X1_suspectWheels_33 (fi : Nat) (lc : Nat) (z : F1) (w0 : F1) (w1 : F1) (w2 : F1) (f0 : F1) (f1 : F1) (f2 : F1) (lk : F1) : F1 := (if (w2 7) = 0 then (v_X1_suspectWheels_27 fi lc z w0 w1 w2 f0 f1 f2 lk) else (v_X1_suspectWheels_19 fi lc z w0 w1 f0 f1 lk))
def v_X1_suspectWheels_34 (fi : Nat) (lc : Nat) (z : F1) (w0 : F1) (w1 : F1) (w2 : F1) (f0 : F1) (f1 : F1) (f2 : F1) (lv : F1) : F1 := (if (w2 7) = 0 then (v_X1_suspectWheels_28 fi lc z w0 w1 w2 f0 f1 f2 lv) else (v_X1_suspectWheels_20 fi lc z w0 w1 f0 f1 lv))
theorem okm_X1_suspectWheels_35 (z : F1) (w2 : F1) (f2 : F1) (hk2 : kpOK w2) : kpOK (v_X1_suspectWheels_29 z w2 f2) := by
  by_cases k0 : (w2 7) = 0
  · (try simp only [v_X1_suspectWheels_29, if_pos k0]); exact (ok_X1_suspect_2_a2 z w2 f2 hk2)
  · (try simp only [v_X1_suspectWheels_29, if_neg k0]); exact hk2
theorem okm_X1_suspectWheels_36 (fi : Nat) (lc : Nat) (z : F1) (w0 : F1) (w1 : F1) (w2 : F1) (f0 : F1) (f1 : F1) (f2 : F1) (hg : lgOK fi lc) : lgOK (v_X1_suspectWheels_30 fi lc z w0 w1 w2 f0 f1 f2) (v_X1_suspectWheels_31 lc z w0 w1 w2 f0 f1 f2) := by
  by_cases k0 : (w2 7) = 0
  · (try simp only [v_X1_suspectWheels_30, v_X1_suspectWheels_31, if_pos k0]); exact (okm_X1_suspectWheels_25 fi lc z w0 w1 w2 f0 f1 f2 hg)
  · (try simp only [v_X1_suspectWheels_30, v_X1_suspectWheels_31, if_neg k0]); exact (okm_X1_suspectWheels_22 fi lc z w0 w1 f0 f1 hg)
def v_X1_suspectWheels_38 (fi : Nat) (lc : Nat) (z : F1) (w0 : F1) (w1 : F1) (w2 : F1) (w3 : F1) (f0 : F1) (f1 : F1) (f2 : F1) (f3 : F1) : Nat := (f_X1_suspect_3_al_fi (v_X1_suspectWheels_30 fi lc z w0 w1 w2 f0 f1 f2) (v_X1_suspectWheels_31 lc z w0 w1 w2 f0 f1 f2) z w3 f3)
theorem okm_X1_suspectWheels_39 (fi : Nat) (lc : Nat) (z : F1) (w0 : F1) (w1 : F1) (w2 : F1) (w3 : F1) (f0 : F1) (f1 : F1) (f2 : F1) (f3 : F1) (hg : lgOK fi lc) : lgOK (v_X1_suspectWheels_38 fi lc z w0 w1 w2 w3 f0 f1 f2 f3) (f_X1_suspect_3_al_lc (v_X1_suspectWheels_31 lc z w0 w1 w2 f0 f1 f2) z w3 f3) := by
  exact (ok_X1_suspect_3_al (v_X1_suspectWheels_30 fi lc z w0 w1 w2 f0 f1 f2) (v_X1_suspectWheels_31 lc z w0 w1 w2 f0 f1 f2) z w3 f3 (okm_X1_suspectWheels_36 fi lc z w0 w1 w2 f0 f1 f2 hg))
def v_X1_suspectWheels_40 (fi : Nat) (lc : Nat) (z : F1) (w0 : F1) (w1 : F1) (w2 : F1) (w3 : F1) (f0 : F1) (f1 : F1) (f2 : F1) (f3 : F1) (lt : F1) (T : Int32) : F1 := (f_X1_suspect_3_t (v_X1_suspectWheels_30 fi lc z w0 w1 w2 f0 f1 f2) (v_X1_suspectWheels_31 lc z w0 w1 w2 f0 f1 f2) z w3 f3 (v_X1_suspectWheels_32 fi lc z w0 w1 w2 f0 f1 f2 lt T) T)
def v_X1_suspectWheels_41 (fi : Nat) (lc : Nat) (z : F1) (w0 : F1) (w1 : F1) (w2 : F1) (w3 : F1) (f0 : F1) (f1 : F1) (f2 : F1) (f3 : F1) (lk : F1) : F1 := (f_X1_suspect_3_k (v_X1_suspectWheels_30 fi lc z w0 w1 w2 f0 f1 f2) (v_X1_suspectWheels_31 lc z w0 w1 w2 f0 f1 f2) z w3 f3 (v_X1_suspectWheels_33 fi lc z w0 w1 w2 f0 f1 f2 lk))
def v_X1_suspectWheels_42 (fi : Nat) (lc : Nat) (z : F1) (w0 : F1) (w1 : F1) (w2 : F1) (w3 : F1) (f0 : F1) (f1 : F1) (f2 : F1) (f3 : F1) (lv : F1) : F1 := (f_X1_suspect_3_v (v_X1_suspectWheels_30 fi lc z w0 w1 w2 f0 f1 f2) (v_X1_suspectWheels_31 lc z w0 w1 w2 f0 f1 f2) z w3 f3 (v_X1_suspectWheels_34 fi lc z w0 w1 w2 f0 f1 f2 lv))
def v_X1_suspectWheels_43 (z : F1) (w3 : F1) (f3 : F1) : F1 := (if (w3 7) = 0 then (f_X1_suspect_3_a3 z w3 f3) else w3)
def v_X1_suspectWheels_44 (fi : Nat) (lc : Nat) (z : F1) (w0 : F1) (w1 : F1) (w2 : F1) (w3 : F1) (f0 : F1) (f1 : F1) (f2 : F1) (f3 : F1) : Nat := (if (w3 7) = 0 then (v_X1_suspectWheels_38 fi lc z w0 w1 w2 w3 f0 f1 f2 f3) else (v_X1_suspectWheels_30 fi lc z w0 w1 w2 f0 f1 f2))
def v_X1_suspectWheels_45 (lc : Nat) (z : F1) (w0 : F1) (w1 : F1) (w2 : F1) (w3 : F1) (f0 : F1) (f1 : F1) (f2 : F1) (f3 : F1) : Nat := (if (w3 7) = 0 then (f_X1_suspect_3_al_lc (v_X1_suspectWheels_31 lc z w0 w1 w2 f0 f1 f2) z w3 f3) else (v_X1_suspectWheels_31 lc z w0 w1 w2 f0 f1 f2))
def v_X1_suspectWheels_46 (fi : Nat) (lc : Nat) (z : F1) (w0 : F1) (w1 : F1) (w2 : F1) (w3 : F1) (f0 : F1) (f1 : F1) (f2 : F1) (f3 : F1) (lt : F1) (T : Int32) : F1 := (if (w3 7) = 0 then (v_X1_suspectWheels_40 fi lc z w0 w1 w2 w3 f0 f1 f2 f3 lt T) else (v_X1_suspectWheels_32 fi lc z w0 w1 w2 f0 f1 f2 lt T))
def v_X1_suspectWheels_47 (fi : Nat) (lc : Nat) (z : F1) (w0 : F1) (w1 : F1) (w2 : F1) (w3 : F1) (f0 : F1) (f1 : F1) (f2 : F1) (f3 : F1) (lk : F1) : F1 := (if (w3 7) = 0 then (v_X1_suspectWheels_41 fi lc z w0 w1 w2 w3 f0 f1 f2 f3 lk) else (v_X1_suspectWheels_33 fi lc z w0 w1 w2 f0 f1 f2 lk))
def v_X1_suspectWheels_48 (fi : Nat) (lc : Nat) (z : F1) (w0 : F1) (w1 : F1) (w2 : F1) (w3 : F1) (f0 : F1) (f1 : F1) (f2 : F1) (f3 : F1) (lv : F1) : F1 := (if (w3 7) = 0 then (v_X1_suspectWheels_42 fi lc z w0 w1 w2 w3 f0 f1 f2 f3 lv) else (v_X1_suspectWheels_34 fi lc z w0 w1 w2 f0 f1 f2 lv))
theorem okm_X1_suspectWheels_49 (z : F1) (w3 : F1) (f3 : F1) (hk3 : kpOK w3) : kpOK (v_X1_suspectWheels_43 z w3 f3) := by
  by_cases k0 : (w3 7) = 0
  · (try simp only [v_X1_suspectWheels_43, if_pos k0]); exact (ok_X1_suspect_3_a3 z w3 f3 hk3)
  · (try simp only [v_X1_suspectWheels_43, if_neg k0]); exact hk3
theorem okm_X1_suspectWheels_50 (fi : Nat) (lc : Nat) (z : F1) (w0 : F1) (w1 : F1) (w2 : F1) (w3 : F1) (f0 : F1) (f1 : F1) (f2 : F1) (f3 : F1) (hg : lgOK fi lc) : lgOK (v_X1_suspectWheels_44 fi lc z w0 w1 w2 w3 f0 f1 f2 f3) (v_X1_suspectWheels_45 lc z w0 w1 w2 w3 f0 f1 f2 f3) := by
  by_cases k0 : (w3 7) = 0
  · (try simp only [v_X1_suspectWheels_44, v_X1_suspectWheels_45, if_pos k0]); exact (okm_X1_suspectWheels_39 fi lc z w0 w1 w2 w3 f0 f1 f2 f3 hg)
  · (try simp only [v_X1_suspectWheels_44, v_X1_suspectWheels_45, if_neg k0]); exact (okm_X1_suspectWheels_36 fi lc z w0 w1 w2 f0 f1 f2 hg)
def f_X1_suspectWheels_a0 (z : F1) (w0 : F1) (f0 : F1) : F1 := (v_X1_suspectWheels_1 z w0 f0)
def f_X1_suspectWheels_a1 (z : F1) (w1 : F1) (f1 : F1) : F1 := (v_X1_suspectWheels_15 z w1 f1)
def f_X1_suspectWheels_a2 (z : F1) (w2 : F1) (f2 : F1) : F1 := (v_X1_suspectWheels_29 z w2 f2)
def f_X1_suspectWheels_a3 (z : F1) (w3 : F1) (f3 : F1) : F1 := (v_X1_suspectWheels_43 z w3 f3)
def f_X1_suspectWheels_al_fi (fi : Nat) (lc : Nat) (z : F1) (w0 : F1) (w1 : F1) (w2 : F1) (w3 : F1) (f0 : F1) (f1 : F1) (f2 : F1) (f3 : F1) : Nat := (v_X1_suspectWheels_44 fi lc z w0 w1 w2 w3 f0 f1 f2 f3)
def f_X1_suspectWheels_al_lc (lc : Nat) (z : F1) (w0 : F1) (w1 : F1) (w2 : F1) (w3 : F1) (f0 : F1) (f1 : F1) (f2 : F1) (f3 : F1) : Nat := (v_X1_suspectWheels_45 lc z w0 w1 w2 w3 f0 f1 f2 f3)
def f_X1_suspectWheels_t (fi : Nat) (lc : Nat) (z : F1) (w0 : F1) (w1 : F1) (w2 : F1) (w3 : F1) (f0 : F1) (f1 : F1) (f2 : F1) (f3 : F1) (lt : F1) (T : Int32) : F1 := (v_X1_suspectWheels_46 fi lc z w0 w1 w2 w3 f0 f1 f2 f3 lt T)
def f_X1_suspectWheels_k (fi : Nat) (lc : Nat) (z : F1) (w0 : F1) (w1 : F1) (w2 : F1) (w3 : F1) (f0 : F1) (f1 : F1) (f2 : F1) (f3 : F1) (lk : F1) : F1 := (v_X1_suspectWheels_47 fi lc z w0 w1 w2 w3 f0 f1 f2 f3 lk)
def f_X1_suspectWheels_v (fi : Nat) (lc : Nat) (z : F1) (w0 : F1) (w1 : F1) (w2 : F1) (w3 : F1) (f0 : F1) (f1 : F1) (f2 : F1) (f3 : F1) (lv : F1) : F1 := (v_X1_suspectWheels_48 fi lc z w0 w1 w2 w3 f0 f1 f2 f3 lv)
theorem ok_X1_suspectWheels_a0 (z : F1) (w0 : F1) (f0 : F1) (hk0 : kpOK w0) : kpOK (f_X1_suspectWheels_a0 z w0 f0) := by
  (try simp only [f_X1_suspectWheels_a0]); exact (okm_X1_suspectWheels_7 z w0 f0 hk0)
theorem ok_X1_suspectWheels_a1 (z : F1) (w1 : F1) (f1 : F1) (hk1 : kpOK w1) : kpOK (f_X1_suspectWheels_a1 z w1 f1) := by
  (try simp only [f_X1_suspectWheels_a1]); exact (okm_X1_suspectWheels_21 z w1 f1 hk1)
theorem ok_X1_suspectWheels_a2 (z : F1) (w2 : F1) (f2 : F1) (hk2 : kpOK w2) : kpOK (f_X1_suspectWheels_a2 z w2 f2) := by
  (try simp only [f_X1_suspectWheels_a2]); exact (okm_X1_suspectWheels_35 z w2 f2 hk2)
theorem ok_X1_suspectWheels_a3 (z : F1) (w3 : F1) (f3 : F1) (hk3 : kpOK w3) : kpOK (f_X1_suspectWheels_a3 z w3 f3) := by
  (try simp only [f_X1_suspectWheels_a3]); exact (okm_X1_suspectWheels_49 z w3 f3 hk3)
theorem ok_X1_suspectWheels_al (fi : Nat) (lc : Nat) (z : F1) (w0 : F1) (w1 : F1) (w2 : F1) (w3 : F1) (f0 : F1) (f1 : F1) (f2 : F1) (f3 : F1) (hg : lgOK fi lc) : lgOK (f_X1_suspectWheels_al_fi fi lc z w0 w1 w2 w3 f0 f1 f2 f3) (f_X1_suspectWheels_al_lc lc z w0 w1 w2 w3 f0 f1 f2 f3) := by
  (try simp only [f_X1_suspectWheels_al_fi, f_X1_suspectWheels_al_lc]); exact (okm_X1_suspectWheels_50 fi lc z w0 w1 w2 w3 f0 f1 f2 f3 hg)
set_option maxHeartbeats 4000000 in
set_option maxRecDepth 100000 in
theorem c_X1_suspectWheels (l : Launch) (D : va_G) (ty : Nat → ClassId) (h : Nat) (aw : Nat) (al : Nat) (a0 : Nat) (a1 : Nat) (a2 : Nat) (a3 : Nat) (m0 : Nat) (m1 : Nat) (m2 : Nat) (m3 : Nat) (t : Nat) (k : Nat) (v : Nat) (fi : Nat) (lc : Nat) (z : F1) (w0 : F1) (w1 : F1) (w2 : F1) (w3 : F1) (f0 : F1) (f1 : F1) (f2 : F1) (f3 : F1) (lt : F1) (lk : F1) (lv : F1) (T : Int32) (hk0 : kpOK w0) (hk1 : kpOK w1) (hk2 : kpOK w2) (hk3 : kpOK w3) (hg : lgOK fi lc) : MC l D ty yX1_suspectWheels cX1_suspectWheels 3 none 2 [.ref h, .int T] [(h, ctE z aw al), (aw, waE ty a0 a1 a2 a3), (a0, whE w0 m0), (a1, whE w1 m1), (a2, whE w2 m2), (a3, whE w3 m3), (m0, arE ty 5 f0), (m1, arE ty 5 f1), (m2, arE ty 5 f2), (m3, arE ty 5 f3), (al, loE fi lc t k v), (t, arE ty 40 lt), (k, arE ty 40 lk), (v, arE ty 40 lv)] none [(h, ctE z aw al), (aw, waE ty a0 a1 a2 a3), (a0, whE (f_X1_suspectWheels_a0 z w0 f0) m0), (a1, whE (f_X1_suspectWheels_a1 z w1 f1) m1), (a2, whE (f_X1_suspectWheels_a2 z w2 f2) m2), (a3, whE (f_X1_suspectWheels_a3 z w3 f3) m3), (m0, arE ty 5 f0), (m1, arE ty 5 f1), (m2, arE ty 5 f2), (m3, arE ty 5 f3), (al, loE (f_X1_suspectWheels_al_fi fi lc z w0 w1 w2 w3 f0 f1 f2 f3) (f_X1_suspectWheels_al_lc lc z w0 w1 w2 w3 f0 f1 f2 f3) t k v), (t, arE ty 40 (f_X1_suspectWheels_t fi lc z w0 w1 w2 w3 f0 f1 f2 f3 lt T)), (k, arE ty 40 (f_X1_suspectWheels_k fi lc z w0 w1 w2 w3 f0 f1 f2 f3 lk)), (v, arE ty 40 (f_X1_suspectWheels_v fi lc z w0 w1 w2 w3 f0 f1 f2 f3 lv))] := by
  refine mc_v (by decide +kernel) (Nat.le_of_ble_eq_true rfl) ?_
  intro p e s m args below meth c A Q ls C hK hA X hret hl
  have hx := C.1
  have hb := C.2.1
  have hl : lv_has ls 3 [(0, .ref h), (1, .int T)] := hl
  have X : Wd D A s.heap [(h, ctE z aw al), (aw, waE ty a0 a1 a2 a3), (a0, whE w0 m0), (a1, whE w1 m1), (a2, whE w2 m2), (a3, whE w3 m3), (m0, arE ty 5 f0), (m1, arE ty 5 f1), (m2, arE ty 5 f2), (m3, arE ty 5 f3), (al, loE fi lc t k v), (t, arE ty 40 lt), (k, arE ty 40 lk), (v, arE ty 40 lv)] s.heap [] := X
  refine lv_iconst (v := 0) hx hb dX1_suspectWheels_0 (by decide) ?_
  refine lv_istore_n (lv' := [(2, .int 0), (0, .ref h), (1, .int T)]) hx hb dX1_suspectWheels_1 rfl hl (by decide) rfl (fun ls hl => ?_)
  refine lv_iload_n hx hb dX1_suspectWheels_2 rfl (lv_at hl 0 rfl) ?_
  refine lv_iconst (v := 4) hx hb dX1_suspectWheels_3 (by decide) ?_
  refine lv_icmp_ge (tgt := 31) hx hb dX1_suspectWheels_4 (by decide) (fun c0 => absurd c0 (by decide)) (fun _ => ?_)
  refine lv_aload_n hx hb dX1_suspectWheels_7 rfl (lv_at hl 1 rfl) ?_
  refine get_ct_0 C hK X 0 rfl fl_X1_11 dX1_suspectWheels_8 ?_
  refine lv_iload_n hx hb dX1_suspectWheels_11 rfl (lv_at hl 0 rfl) ?_
  refine s_aald (t0 := 2) (b := a0) C hK X 1 rfl rfl (vp_in_nI (n := 0) (by decide) (by decide)) rfl dX1_suspectWheels_12 ?_
  refine get_wh_8 C hK X 2 rfl fl_X1_93 dX1_suspectWheels_13 ?_
  have J25_9 : ∀ (x1 : F1) (x2 : Nat) (x3 : Nat) (x4 : F1) (x5 : F1) (x6 : F1) (ls : Array Slot) (H : Heap) (locs : List Loc), x1 = (v_X1_suspectWheels_1 z w0 f0) → x2 = (v_X1_suspectWheels_2 fi lc z w0 f0) → x3 = (v_X1_suspectWheels_3 lc z w0 f0) → x4 = (v_X1_suspectWheels_4 fi lc z w0 f0 lt T) → x5 = (v_X1_suspectWheels_5 fi lc z w0 f0 lk) → x6 = (v_X1_suspectWheels_6 fi lc z w0 f0 lv) → lv_has ls 3 [(2, .int 0), (0, .ref h), (1, .int T)] → Wd D A s.heap [(h, ctE z aw al), (aw, waE ty a0 a1 a2 a3), (a0, whE x1 m0), (a1, whE w1 m1), (a2, whE w2 m2), (a3, whE w3 m3), (m0, arE ty 5 f0), (m1, arE ty 5 f1), (m2, arE ty 5 f2), (m3, arE ty 5 f3), (al, loE x2 x3 t k v), (t, arE ty 40 x4), (k, arE ty 40 x5), (v, arE ty 40 x6)] H locs → W p l e (rmD 2) s m args below meth c H locs 0 0 Q (F0 m 25 ls []) := by
    intro x1 x2 x3 x4 x5 x6 ls H locs ex1 ex2 ex3 ex4 ex5 ex6 hl X
    subst ex1; subst ex2; subst ex3; subst ex4; subst ex5; subst ex6
    refine lv_iinc (v := 1) (lv' := [(2, .int 1), (0, .ref h), (1, .int T)]) hx hb dX1_suspectWheels_25 hl (k := 0) rfl (by decide) (by decide) rfl (fun ls hl => ?_)
    refine lv_goto (tgt := 2) hx hb dX1_suspectWheels_28 (by decide) ?_
    refine lv_iload_n hx hb dX1_suspectWheels_2 rfl (lv_at hl 0 rfl) ?_
    refine lv_iconst (v := 4) hx hb dX1_suspectWheels_3 (by decide) ?_
    refine lv_icmp_ge (tgt := 31) hx hb dX1_suspectWheels_4 (by decide) (fun c0 => absurd c0 (by decide)) (fun _ => ?_)
    refine lv_aload_n hx hb dX1_suspectWheels_7 rfl (lv_at hl 1 rfl) ?_
    refine get_ct_0 C hK X 0 rfl fl_X1_11 dX1_suspectWheels_8 ?_
    refine lv_iload_n hx hb dX1_suspectWheels_11 rfl (lv_at hl 0 rfl) ?_
    refine s_aald (t0 := 2) (b := a1) C hK X 1 rfl rfl (vp_in_nI (n := 1) (by decide) (by decide)) rfl dX1_suspectWheels_12 ?_
    refine get_wh_8 C hK X 3 rfl fl_X1_93 dX1_suspectWheels_13 ?_
    have J25_23 : ∀ (x15 : F1) (x16 : Nat) (x17 : Nat) (x18 : F1) (x19 : F1) (x20 : F1) (ls : Array Slot) (H : Heap) (locs : List Loc), x15 = (v_X1_suspectWheels_15 z w1 f1) → x16 = (v_X1_suspectWheels_16 fi lc z w0 w1 f0 f1) → x17 = (v_X1_suspectWheels_17 lc z w0 w1 f0 f1) → x18 = (v_X1_suspectWheels_18 fi lc z w0 w1 f0 f1 lt T) → x19 = (v_X1_suspectWheels_19 fi lc z w0 w1 f0 f1 lk) → x20 = (v_X1_suspectWheels_20 fi lc z w0 w1 f0 f1 lv) → lv_has ls 3 [(2, .int 1), (0, .ref h), (1, .int T)] → Wd D A s.heap [(h, ctE z aw al), (aw, waE ty a0 a1 a2 a3), (a0, whE (v_X1_suspectWheels_1 z w0 f0) m0), (a1, whE x15 m1), (a2, whE w2 m2), (a3, whE w3 m3), (m0, arE ty 5 f0), (m1, arE ty 5 f1), (m2, arE ty 5 f2), (m3, arE ty 5 f3), (al, loE x16 x17 t k v), (t, arE ty 40 x18), (k, arE ty 40 x19), (v, arE ty 40 x20)] H locs → W p l e (rmD 2) s m args below meth c H locs 0 0 Q (F0 m 25 ls []) := by
      intro x15 x16 x17 x18 x19 x20 ls H locs ex15 ex16 ex17 ex18 ex19 ex20 hl X
      subst ex15; subst ex16; subst ex17; subst ex18; subst ex19; subst ex20
      refine lv_iinc (v := 2) (lv' := [(2, .int 2), (0, .ref h), (1, .int T)]) hx hb dX1_suspectWheels_25 hl (k := 0) rfl (by decide) (by decide) rfl (fun ls hl => ?_)
      refine lv_goto (tgt := 2) hx hb dX1_suspectWheels_28 (by decide) ?_
      refine lv_iload_n hx hb dX1_suspectWheels_2 rfl (lv_at hl 0 rfl) ?_
      refine lv_iconst (v := 4) hx hb dX1_suspectWheels_3 (by decide) ?_
      refine lv_icmp_ge (tgt := 31) hx hb dX1_suspectWheels_4 (by decide) (fun c0 => absurd c0 (by decide)) (fun _ => ?_)
      refine lv_aload_n hx hb dX1_suspectWheels_7 rfl (lv_at hl 1 rfl) ?_
      refine get_ct_0 C hK X 0 rfl fl_X1_11 dX1_suspectWheels_8 ?_
      refine lv_iload_n hx hb dX1_suspectWheels_11 rfl (lv_at hl 0 rfl) ?_
      refine s_aald (t0 := 2) (b := a2) C hK X 1 rfl rfl (vp_in_nI (n := 2) (by decide) (by decide)) rfl dX1_suspectWheels_12 ?_
      refine get_wh_8 C hK X 4 rfl fl_X1_93 dX1_suspectWheels_13 ?_
      have J25_37 : ∀ (x29 : F1) (x30 : Nat) (x31 : Nat) (x32 : F1) (x33 : F1) (x34 : F1) (ls : Array Slot) (H : Heap) (locs : List Loc), x29 = (v_X1_suspectWheels_29 z w2 f2) → x30 = (v_X1_suspectWheels_30 fi lc z w0 w1 w2 f0 f1 f2) → x31 = (v_X1_suspectWheels_31 lc z w0 w1 w2 f0 f1 f2) → x32 = (v_X1_suspectWheels_32 fi lc z w0 w1 w2 f0 f1 f2 lt T) → x33 = (v_X1_suspectWheels_33 fi lc z w0 w1 w2 f0 f1 f2 lk) → x34 = (v_X1_suspectWheels_34 fi lc z w0 w1 w2 f0 f1 f2 lv) → lv_has ls 3 [(2, .int 2), (0, .ref h), (1, .int T)] → Wd D A s.heap [(h, ctE z aw al), (aw, waE ty a0 a1 a2 a3), (a0, whE (v_X1_suspectWheels_1 z w0 f0) m0), (a1, whE (v_X1_suspectWheels_15 z w1 f1) m1), (a2, whE x29 m2), (a3, whE w3 m3), (m0, arE ty 5 f0), (m1, arE ty 5 f1), (m2, arE ty 5 f2), (m3, arE ty 5 f3), (al, loE x30 x31 t k v), (t, arE ty 40 x32), (k, arE ty 40 x33), (v, arE ty 40 x34)] H locs → W p l e (rmD 2) s m args below meth c H locs 0 0 Q (F0 m 25 ls []) := by
        intro x29 x30 x31 x32 x33 x34 ls H locs ex29 ex30 ex31 ex32 ex33 ex34 hl X
        subst ex29; subst ex30; subst ex31; subst ex32; subst ex33; subst ex34
        refine lv_iinc (v := 3) (lv' := [(2, .int 3), (0, .ref h), (1, .int T)]) hx hb dX1_suspectWheels_25 hl (k := 0) rfl (by decide) (by decide) rfl (fun ls hl => ?_)
        refine lv_goto (tgt := 2) hx hb dX1_suspectWheels_28 (by decide) ?_
        refine lv_iload_n hx hb dX1_suspectWheels_2 rfl (lv_at hl 0 rfl) ?_
        refine lv_iconst (v := 4) hx hb dX1_suspectWheels_3 (by decide) ?_
        refine lv_icmp_ge (tgt := 31) hx hb dX1_suspectWheels_4 (by decide) (fun c0 => absurd c0 (by decide)) (fun _ => ?_)
        refine lv_aload_n hx hb dX1_suspectWheels_7 rfl (lv_at hl 1 rfl) ?_
        refine get_ct_0 C hK X 0 rfl fl_X1_11 dX1_suspectWheels_8 ?_
        refine lv_iload_n hx hb dX1_suspectWheels_11 rfl (lv_at hl 0 rfl) ?_
        refine s_aald (t0 := 2) (b := a3) C hK X 1 rfl rfl (vp_in_nI (n := 3) (by decide) (by decide)) rfl dX1_suspectWheels_12 ?_
        refine get_wh_8 C hK X 5 rfl fl_X1_93 dX1_suspectWheels_13 ?_
        have J25_51 : ∀ (x43 : F1) (x44 : Nat) (x45 : Nat) (x46 : F1) (x47 : F1) (x48 : F1) (ls : Array Slot) (H : Heap) (locs : List Loc), x43 = (v_X1_suspectWheels_43 z w3 f3) → x44 = (v_X1_suspectWheels_44 fi lc z w0 w1 w2 w3 f0 f1 f2 f3) → x45 = (v_X1_suspectWheels_45 lc z w0 w1 w2 w3 f0 f1 f2 f3) → x46 = (v_X1_suspectWheels_46 fi lc z w0 w1 w2 w3 f0 f1 f2 f3 lt T) → x47 = (v_X1_suspectWheels_47 fi lc z w0 w1 w2 w3 f0 f1 f2 f3 lk) → x48 = (v_X1_suspectWheels_48 fi lc z w0 w1 w2 w3 f0 f1 f2 f3 lv) → lv_has ls 3 [(2, .int 3), (0, .ref h), (1, .int T)] → Wd D A s.heap [(h, ctE z aw al), (aw, waE ty a0 a1 a2 a3), (a0, whE (v_X1_suspectWheels_1 z w0 f0) m0), (a1, whE (v_X1_suspectWheels_15 z w1 f1) m1), (a2, whE (v_X1_suspectWheels_29 z w2 f2) m2), (a3, whE x43 m3), (m0, arE ty 5 f0), (m1, arE ty 5 f1), (m2, arE ty 5 f2), (m3, arE ty 5 f3), (al, loE x44 x45 t k v), (t, arE ty 40 x46), (k, arE ty 40 x47), (v, arE ty 40 x48)] H locs → W p l e (rmD 2) s m args below meth c H locs 0 0 Q (F0 m 25 ls []) := by
          intro x43 x44 x45 x46 x47 x48 ls H locs ex43 ex44 ex45 ex46 ex47 ex48 hl X
          subst ex43; subst ex44; subst ex45; subst ex46; subst ex47; subst ex48
          refine lv_iinc (v := 4) (lv' := [(2, .int 4), (0, .ref h), (1, .int T)]) hx hb dX1_suspectWheels_25 hl (k := 0) rfl (by decide) (by decide) rfl (fun ls hl => ?_)
          refine lv_goto (tgt := 2) hx hb dX1_suspectWheels_28 (by decide) ?_
          refine lv_iload_n hx hb dX1_suspectWheels_2 rfl (lv_at hl 0 rfl) ?_
          refine lv_iconst (v := 4) hx hb dX1_suspectWheels_3 (by decide) ?_
          refine lv_icmp_ge (tgt := 31) hx hb dX1_suspectWheels_4 (by decide) (fun _ => ?_) (fun c0 => absurd (by decide) c0)
          have e_2_0 : (f_X1_suspectWheels_a0 z w0 f0) = (v_X1_suspectWheels_1 z w0 f0) := by first | (rw [f_X1_suspectWheels_a0]; done) | (rw [f_X1_suspectWheels_a0]; rfl) | (simp only [f_X1_suspectWheels_a0]; done)
          have e_3_0 : (f_X1_suspectWheels_a1 z w1 f1) = (v_X1_suspectWheels_15 z w1 f1) := by first | (rw [f_X1_suspectWheels_a1]; done) | (rw [f_X1_suspectWheels_a1]; rfl) | (simp only [f_X1_suspectWheels_a1]; done)
          have e_4_0 : (f_X1_suspectWheels_a2 z w2 f2) = (v_X1_suspectWheels_29 z w2 f2) := by first | (rw [f_X1_suspectWheels_a2]; done) | (rw [f_X1_suspectWheels_a2]; rfl) | (simp only [f_X1_suspectWheels_a2]; done)
          have e_5_0 : (f_X1_suspectWheels_a3 z w3 f3) = (v_X1_suspectWheels_43 z w3 f3) := by first | (rw [f_X1_suspectWheels_a3]; done) | (rw [f_X1_suspectWheels_a3]; rfl) | (simp only [f_X1_suspectWheels_a3]; done)
          have e_10_0 : (f_X1_suspectWheels_al_fi fi lc z w0 w1 w2 w3 f0 f1 f2 f3) = (v_X1_suspectWheels_44 fi lc z w0 w1 w2 w3 f0 f1 f2 f3) := by first | (rw [f_X1_suspectWheels_al_fi]; done) | (rw [f_X1_suspectWheels_al_fi]; rfl) | (simp only [f_X1_suspectWheels_al_fi]; done)
          have e_10_1 : (f_X1_suspectWheels_al_lc lc z w0 w1 w2 w3 f0 f1 f2 f3) = (v_X1_suspectWheels_45 lc z w0 w1 w2 w3 f0 f1 f2 f3) := by first | (rw [f_X1_suspectWheels_al_lc]; done) | (rw [f_X1_suspectWheels_al_lc]; rfl) | (simp only [f_X1_suspectWheels_al_lc]; done)
          have e_11_1 : (f_X1_suspectWheels_t fi lc z w0 w1 w2 w3 f0 f1 f2 f3 lt T) = (v_X1_suspectWheels_46 fi lc z w0 w1 w2 w3 f0 f1 f2 f3 lt T) := by first | (rw [f_X1_suspectWheels_t]; done) | (rw [f_X1_suspectWheels_t]; rfl) | (simp only [f_X1_suspectWheels_t]; done)
          have e_12_1 : (f_X1_suspectWheels_k fi lc z w0 w1 w2 w3 f0 f1 f2 f3 lk) = (v_X1_suspectWheels_47 fi lc z w0 w1 w2 w3 f0 f1 f2 f3 lk) := by first | (rw [f_X1_suspectWheels_k]; done) | (rw [f_X1_suspectWheels_k]; rfl) | (simp only [f_X1_suspectWheels_k]; done)
          have e_13_1 : (f_X1_suspectWheels_v fi lc z w0 w1 w2 w3 f0 f1 f2 f3 lv) = (v_X1_suspectWheels_48 fi lc z w0 w1 w2 w3 f0 f1 f2 f3 lv) := by first | (rw [f_X1_suspectWheels_v]; done) | (rw [f_X1_suspectWheels_v]; rfl) | (simp only [f_X1_suspectWheels_v]; done)
          exact hret _ _ _ _ _ dX1_suspectWheels_31 X (by rw [e_2_0, e_3_0, e_4_0, e_5_0, e_10_0, e_10_1, e_11_1, e_12_1, e_13_1])
        refine lv_if_ne (tgt := 25) hx hb dX1_suspectWheels_16 (by decide) (fun c0_0 => ?_) (fun c0_0 => ?_)
        · exact J25_51 w3 (v_X1_suspectWheels_30 fi lc z w0 w1 w2 f0 f1 f2) (v_X1_suspectWheels_31 lc z w0 w1 w2 f0 f1 f2) (v_X1_suspectWheels_32 fi lc z w0 w1 w2 f0 f1 f2 lt T) (v_X1_suspectWheels_33 fi lc z w0 w1 w2 f0 f1 f2 lk) (v_X1_suspectWheels_34 fi lc z w0 w1 w2 f0 f1 f2 lv) _ _ _ (by first | (rw [v_X1_suspectWheels_43, if_neg c0_0]; done) | (rw [v_X1_suspectWheels_43, if_neg c0_0]; rfl) | (simp only [v_X1_suspectWheels_43, if_neg c0_0]; done)) (by first | (rw [v_X1_suspectWheels_44, if_neg c0_0]; done) | (rw [v_X1_suspectWheels_44, if_neg c0_0]; rfl) | (simp only [v_X1_suspectWheels_44, if_neg c0_0]; done)) (by first | (rw [v_X1_suspectWheels_45, if_neg c0_0]; done) | (rw [v_X1_suspectWheels_45, if_neg c0_0]; rfl) | (simp only [v_X1_suspectWheels_45, if_neg c0_0]; done)) (by first | (rw [v_X1_suspectWheels_46, if_neg c0_0]; done) | (rw [v_X1_suspectWheels_46, if_neg c0_0]; rfl) | (simp only [v_X1_suspectWheels_46, if_neg c0_0]; done)) (by first | (rw [v_X1_suspectWheels_47, if_neg c0_0]; done) | (rw [v_X1_suspectWheels_47, if_neg c0_0]; rfl) | (simp only [v_X1_suspectWheels_47, if_neg c0_0]; done)) (by first | (rw [v_X1_suspectWheels_48, if_neg c0_0]; done) | (rw [v_X1_suspectWheels_48, if_neg c0_0]; rfl) | (simp only [v_X1_suspectWheels_48, if_neg c0_0]; done)) (lv_sub hl [0, 1, 2] rfl) X
        · refine lv_aload_n hx hb dX1_suspectWheels_19 rfl (lv_at hl 1 rfl) ?_
          refine lv_iload_n hx hb dX1_suspectWheels_20 rfl (lv_at hl 0 rfl) ?_
          refine lv_iload_n hx hb dX1_suspectWheels_21 rfl (lv_at hl 2 rfl) ?_
          refine s_cVv (ws' := [(h, ctE z aw al), (aw, waE ty a0 a1 a2 a3), (a0, whE (v_X1_suspectWheels_1 z w0 f0) m0), (a1, whE (v_X1_suspectWheels_15 z w1 f1) m1), (a2, whE (v_X1_suspectWheels_29 z w2 f2) m2), (a3, whE (f_X1_suspect_3_a3 z w3 f3) m3), (m0, arE ty 5 f0), (m1, arE ty 5 f1), (m2, arE ty 5 f2), (m3, arE ty 5 f3), (al, loE (v_X1_suspectWheels_38 fi lc z w0 w1 w2 w3 f0 f1 f2 f3) (f_X1_suspect_3_al_lc (v_X1_suspectWheels_31 lc z w0 w1 w2 f0 f1 f2) z w3 f3) t k v), (t, arE ty 40 (v_X1_suspectWheels_40 fi lc z w0 w1 w2 w3 f0 f1 f2 f3 lt T)), (k, arE ty 40 (v_X1_suspectWheels_41 fi lc z w0 w1 w2 w3 f0 f1 f2 f3 lk)), (v, arE ty 40 (v_X1_suspectWheels_42 fi lc z w0 w1 w2 w3 f0 f1 f2 f3 lv))]) C hK hA X (c_X1_suspect_3 l D ty h aw al a0 a1 a2 a3 m3 t k v (v_X1_suspectWheels_30 fi lc z w0 w1 w2 f0 f1 f2) (v_X1_suspectWheels_31 lc z w0 w1 w2 f0 f1 f2) z w3 f3 (v_X1_suspectWheels_32 fi lc z w0 w1 w2 f0 f1 f2 lt T) (v_X1_suspectWheels_33 fi lc z w0 w1 w2 f0 f1 f2 lk) (v_X1_suspectWheels_34 fi lc z w0 w1 w2 f0 f1 f2 lv) T hk3 (okm_X1_suspectWheels_36 fi lc z w0 w1 w2 f0 f1 f2 hg)) [0, 1, 5, 9, 10, 11, 12, 13] (pk_c rfl (pk_c rfl (pk_c rfl (pk_c rfl (pk_c rfl (pk_c rfl (pk_c rfl (pk_c rfl pk_n)))))))) rfl (pk_c rfl (pk_c rfl (pk_c rfl (pk_c rfl (pk_c rfl (pk_c rfl (pk_c rfl (pk_c rfl pk_n)))))))) (em_t (em_t (em_f (em_f (em_f (em_t (em_f (em_f (em_f (em_t (em_t (em_t (em_t (em_t em_n)))))))))))))) rfl ml_X1_suspect wm_X1_117 (q0 := 0) rfl rfl rfl ⟨Nat.le_of_ble_eq_true rfl, Nat.le_of_ble_eq_true rfl⟩ ⟨Nat.zero_le _, Nat.zero_le _⟩ hl.1 rfl (Nat.le_of_ble_eq_true rfl) dX1_suspectWheels_22 (fun H locs X => ?_)
          exact J25_51 (f_X1_suspect_3_a3 z w3 f3) (v_X1_suspectWheels_38 fi lc z w0 w1 w2 w3 f0 f1 f2 f3) (f_X1_suspect_3_al_lc (v_X1_suspectWheels_31 lc z w0 w1 w2 f0 f1 f2) z w3 f3) (v_X1_suspectWheels_40 fi lc z w0 w1 w2 w3 f0 f1 f2 f3 lt T) (v_X1_suspectWheels_41 fi lc z w0 w1 w2 w3 f0 f1 f2 f3 lk) (v_X1_suspectWheels_42 fi lc z w0 w1 w2 w3 f0 f1 f2 f3 lv) _ _ _ (by first | (rw [v_X1_suspectWheels_43, if_pos c0_0]; done) | (rw [v_X1_suspectWheels_43, if_pos c0_0]; rfl) | (simp only [v_X1_suspectWheels_43, if_pos c0_0]; done)) (by first | (rw [v_X1_suspectWheels_44, if_pos c0_0]; done) | (rw [v_X1_suspectWheels_44, if_pos c0_0]; rfl) | (simp only [v_X1_suspectWheels_44, if_pos c0_0]; done)) (by first | (rw [v_X1_suspectWheels_45, if_pos c0_0]; done) | (rw [v_X1_suspectWheels_45, if_pos c0_0]; rfl) | (simp only [v_X1_suspectWheels_45, if_pos c0_0]; done)) (by first | (rw [v_X1_suspectWheels_46, if_pos c0_0]; done) | (rw [v_X1_suspectWheels_46, if_pos c0_0]; rfl) | (simp only [v_X1_suspectWheels_46, if_pos c0_0]; done)) (by first | (rw [v_X1_suspectWheels_47, if_pos c0_0]; done) | (rw [v_X1_suspectWheels_47, if_pos c0_0]; rfl) | (simp only [v_X1_suspectWheels_47, if_pos c0_0]; done)) (by first | (rw [v_X1_suspectWheels_48, if_pos c0_0]; done) | (rw [v_X1_suspectWheels_48, if_pos c0_0]; rfl) | (simp only [v_X1_suspectWheels_48, if_pos c0_0]; done)) (lv_sub hl [0, 1, 2] rfl) X
      refine lv_if_ne (tgt := 25) hx hb dX1_suspectWheels_16 (by decide) (fun c0_0 => ?_) (fun c0_0 => ?_)
      · exact J25_37 w2 (v_X1_suspectWheels_16 fi lc z w0 w1 f0 f1) (v_X1_suspectWheels_17 lc z w0 w1 f0 f1) (v_X1_suspectWheels_18 fi lc z w0 w1 f0 f1 lt T) (v_X1_suspectWheels_19 fi lc z w0 w1 f0 f1 lk) (v_X1_suspectWheels_20 fi lc z w0 w1 f0 f1 lv) _ _ _ (by first | (rw [v_X1_suspectWheels_29, if_neg c0_0]; done) | (rw [v_X1_suspectWheels_29, if_neg c0_0]; rfl) | (simp only [v_X1_suspectWheels_29, if_neg c0_0]; done)) (by first | (rw [v_X1_suspectWheels_30, if_neg c0_0]; done) | (rw [v_X1_suspectWheels_30, if_neg c0_0]; rfl) | (simp only [v_X1_suspectWheels_30, if_neg c0_0]; done)) (by first | (rw [v_X1_suspectWheels_31, if_neg c0_0]; done) | (rw [v_X1_suspectWheels_31, if_neg c0_0]; rfl) | (simp only [v_X1_suspectWheels_31, if_neg c0_0]; done)) (by first | (rw [v_X1_suspectWheels_32, if_neg c0_0]; done) | (rw [v_X1_suspectWheels_32, if_neg c0_0]; rfl) | (simp only [v_X1_suspectWheels_32, if_neg c0_0]; done)) (by first | (rw [v_X1_suspectWheels_33, if_neg c0_0]; done) | (rw [v_X1_suspectWheels_33, if_neg c0_0]; rfl) | (simp only [v_X1_suspectWheels_33, if_neg c0_0]; done)) (by first | (rw [v_X1_suspectWheels_34, if_neg c0_0]; done) | (rw [v_X1_suspectWheels_34, if_neg c0_0]; rfl) | (simp only [v_X1_suspectWheels_34, if_neg c0_0]; done)) (lv_sub hl [0, 1, 2] rfl) X
      · refine lv_aload_n hx hb dX1_suspectWheels_19 rfl (lv_at hl 1 rfl) ?_
        refine lv_iload_n hx hb dX1_suspectWheels_20 rfl (lv_at hl 0 rfl) ?_
        refine lv_iload_n hx hb dX1_suspectWheels_21 rfl (lv_at hl 2 rfl) ?_
        refine s_cVv (ws' := [(h, ctE z aw al), (aw, waE ty a0 a1 a2 a3), (a0, whE (v_X1_suspectWheels_1 z w0 f0) m0), (a1, whE (v_X1_suspectWheels_15 z w1 f1) m1), (a2, whE (f_X1_suspect_2_a2 z w2 f2) m2), (a3, whE w3 m3), (m0, arE ty 5 f0), (m1, arE ty 5 f1), (m2, arE ty 5 f2), (m3, arE ty 5 f3), (al, loE (v_X1_suspectWheels_24 fi lc z w0 w1 w2 f0 f1 f2) (f_X1_suspect_2_al_lc (v_X1_suspectWheels_17 lc z w0 w1 f0 f1) z w2 f2) t k v), (t, arE ty 40 (v_X1_suspectWheels_26 fi lc z w0 w1 w2 f0 f1 f2 lt T)), (k, arE ty 40 (v_X1_suspectWheels_27 fi lc z w0 w1 w2 f0 f1 f2 lk)), (v, arE ty 40 (v_X1_suspectWheels_28 fi lc z w0 w1 w2 f0 f1 f2 lv))]) C hK hA X (c_X1_suspect_2 l D ty h aw al a0 a1 a2 a3 m2 t k v (v_X1_suspectWheels_16 fi lc z w0 w1 f0 f1) (v_X1_suspectWheels_17 lc z w0 w1 f0 f1) z w2 f2 (v_X1_suspectWheels_18 fi lc z w0 w1 f0 f1 lt T) (v_X1_suspectWheels_19 fi lc z w0 w1 f0 f1 lk) (v_X1_suspectWheels_20 fi lc z w0 w1 f0 f1 lv) T hk2 (okm_X1_suspectWheels_22 fi lc z w0 w1 f0 f1 hg)) [0, 1, 4, 8, 10, 11, 12, 13] (pk_c rfl (pk_c rfl (pk_c rfl (pk_c rfl (pk_c rfl (pk_c rfl (pk_c rfl (pk_c rfl pk_n)))))))) rfl (pk_c rfl (pk_c rfl (pk_c rfl (pk_c rfl (pk_c rfl (pk_c rfl (pk_c rfl (pk_c rfl pk_n)))))))) (em_t (em_t (em_f (em_f (em_t (em_f (em_f (em_f (em_t (em_f (em_t (em_t (em_t (em_t em_n)))))))))))))) rfl ml_X1_suspect wm_X1_117 (q0 := 0) rfl rfl rfl ⟨Nat.le_of_ble_eq_true rfl, Nat.le_of_ble_eq_true rfl⟩ ⟨Nat.zero_le _, Nat.zero_le _⟩ hl.1 rfl (Nat.le_of_ble_eq_true rfl) dX1_suspectWheels_22 (fun H locs X => ?_)
        exact J25_37 (f_X1_suspect_2_a2 z w2 f2) (v_X1_suspectWheels_24 fi lc z w0 w1 w2 f0 f1 f2) (f_X1_suspect_2_al_lc (v_X1_suspectWheels_17 lc z w0 w1 f0 f1) z w2 f2) (v_X1_suspectWheels_26 fi lc z w0 w1 w2 f0 f1 f2 lt T) (v_X1_suspectWheels_27 fi lc z w0 w1 w2 f0 f1 f2 lk) (v_X1_suspectWheels_28 fi lc z w0 w1 w2 f0 f1 f2 lv) _ _ _ (by first | (rw [v_X1_suspectWheels_29, if_pos c0_0]; done) | (rw [v_X1_suspectWheels_29, if_pos c0_0]; rfl) | (simp only [v_X1_suspectWheels_29, if_pos c0_0]; done)) (by first | (rw [v_X1_suspectWheels_30, if_pos c0_0]; done) | (rw [v_X1_suspectWheels_30, if_pos c0_0]; rfl) | (simp only [v_X1_suspectWheels_30, if_pos c0_0]; done)) (by first | (rw [v_X1_suspectWheels_31, if_pos c0_0]; done) | (rw [v_X1_suspectWheels_31, if_pos c0_0]; rfl) | (simp only [v_X1_suspectWheels_31, if_pos c0_0]; done)) (by first | (rw [v_X1_suspectWheels_32, if_pos c0_0]; done) | (rw [v_X1_suspectWheels_32, if_pos c0_0]; rfl) | (simp only [v_X1_suspectWheels_32, if_pos c0_0]; done)) (by first | (rw [v_X1_suspectWheels_33, if_pos c0_0]; done) | (rw [v_X1_suspectWheels_33, if_pos c0_0]; rfl) | (simp only [v_X1_suspectWheels_33, if_pos c0_0]; done)) (by first | (rw [v_X1_suspectWheels_34, if_pos c0_0]; done) | (rw [v_X1_suspectWheels_34, if_pos c0_0]; rfl) | (simp only [v_X1_suspectWheels_34, if_pos c0_0]; done)) (lv_sub hl [0, 1, 2] rfl) X
    refine lv_if_ne (tgt := 25) hx hb dX1_suspectWheels_16 (by decide) (fun c0_0 => ?_) (fun c0_0 => ?_)
    · exact J25_23 w1 (v_X1_suspectWheels_2 fi lc z w0 f0) (v_X1_suspectWheels_3 lc z w0 f0) (v_X1_suspectWheels_4 fi lc z w0 f0 lt T) (v_X1_suspectWheels_5 fi lc z w0 f0 lk) (v_X1_suspectWheels_6 fi lc z w0 f0 lv) _ _ _ (by first | (rw [v_X1_suspectWheels_15, if_neg c0_0]; done) | (rw [v_X1_suspectWheels_15, if_neg c0_0]; rfl) | (simp only [v_X1_suspectWheels_15, if_neg c0_0]; done)) (by first | (rw [v_X1_suspectWheels_16, if_neg c0_0]; done) | (rw [v_X1_suspectWheels_16, if_neg c0_0]; rfl) | (simp only [v_X1_suspectWheels_16, if_neg c0_0]; done)) (by first | (rw [v_X1_suspectWheels_17, if_neg c0_0]; done) | (rw [v_X1_suspectWheels_17, if_neg c0_0]; rfl) | (simp only [v_X1_suspectWheels_17, if_neg c0_0]; done)) (by first | (rw [v_X1_suspectWheels_18, if_neg c0_0]; done) | (rw [v_X1_suspectWheels_18, if_neg c0_0]; rfl) | (simp only [v_X1_suspectWheels_18, if_neg c0_0]; done)) (by first | (rw [v_X1_suspectWheels_19, if_neg c0_0]; done) | (rw [v_X1_suspectWheels_19, if_neg c0_0]; rfl) | (simp only [v_X1_suspectWheels_19, if_neg c0_0]; done)) (by first | (rw [v_X1_suspectWheels_20, if_neg c0_0]; done) | (rw [v_X1_suspectWheels_20, if_neg c0_0]; rfl) | (simp only [v_X1_suspectWheels_20, if_neg c0_0]; done)) (lv_sub hl [0, 1, 2] rfl) X
    · refine lv_aload_n hx hb dX1_suspectWheels_19 rfl (lv_at hl 1 rfl) ?_
      refine lv_iload_n hx hb dX1_suspectWheels_20 rfl (lv_at hl 0 rfl) ?_
      refine lv_iload_n hx hb dX1_suspectWheels_21 rfl (lv_at hl 2 rfl) ?_
      refine s_cVv (ws' := [(h, ctE z aw al), (aw, waE ty a0 a1 a2 a3), (a0, whE (v_X1_suspectWheels_1 z w0 f0) m0), (a1, whE (f_X1_suspect_1_a1 z w1 f1) m1), (a2, whE w2 m2), (a3, whE w3 m3), (m0, arE ty 5 f0), (m1, arE ty 5 f1), (m2, arE ty 5 f2), (m3, arE ty 5 f3), (al, loE (v_X1_suspectWheels_10 fi lc z w0 w1 f0 f1) (f_X1_suspect_1_al_lc (v_X1_suspectWheels_3 lc z w0 f0) z w1 f1) t k v), (t, arE ty 40 (v_X1_suspectWheels_12 fi lc z w0 w1 f0 f1 lt T)), (k, arE ty 40 (v_X1_suspectWheels_13 fi lc z w0 w1 f0 f1 lk)), (v, arE ty 40 (v_X1_suspectWheels_14 fi lc z w0 w1 f0 f1 lv))]) C hK hA X (c_X1_suspect_1 l D ty h aw al a0 a1 a2 a3 m1 t k v (v_X1_suspectWheels_2 fi lc z w0 f0) (v_X1_suspectWheels_3 lc z w0 f0) z w1 f1 (v_X1_suspectWheels_4 fi lc z w0 f0 lt T) (v_X1_suspectWheels_5 fi lc z w0 f0 lk) (v_X1_suspectWheels_6 fi lc z w0 f0 lv) T hk1 (okm_X1_suspectWheels_8 fi lc z w0 f0 hg)) [0, 1, 3, 7, 10, 11, 12, 13] (pk_c rfl (pk_c rfl (pk_c rfl (pk_c rfl (pk_c rfl (pk_c rfl (pk_c rfl (pk_c rfl pk_n)))))))) rfl (pk_c rfl (pk_c rfl (pk_c rfl (pk_c rfl (pk_c rfl (pk_c rfl (pk_c rfl (pk_c rfl pk_n)))))))) (em_t (em_t (em_f (em_t (em_f (em_f (em_f (em_t (em_f (em_f (em_t (em_t (em_t (em_t em_n)))))))))))))) rfl ml_X1_suspect wm_X1_117 (q0 := 0) rfl rfl rfl ⟨Nat.le_of_ble_eq_true rfl, Nat.le_of_ble_eq_true rfl⟩ ⟨Nat.zero_le _, Nat.zero_le _⟩ hl.1 rfl (Nat.le_of_ble_eq_true rfl) dX1_suspectWheels_22 (fun H locs X => ?_)
      exact J25_23 (f_X1_suspect_1_a1 z w1 f1) (v_X1_suspectWheels_10 fi lc z w0 w1 f0 f1) (f_X1_suspect_1_al_lc (v_X1_suspectWheels_3 lc z w0 f0) z w1 f1) (v_X1_suspectWheels_12 fi lc z w0 w1 f0 f1 lt T) (v_X1_suspectWheels_13 fi lc z w0 w1 f0 f1 lk) (v_X1_suspectWheels_14 fi lc z w0 w1 f0 f1 lv) _ _ _ (by first | (rw [v_X1_suspectWheels_15, if_pos c0_0]; done) | (rw [v_X1_suspectWheels_15, if_pos c0_0]; rfl) | (simp only [v_X1_suspectWheels_15, if_pos c0_0]; done)) (by first | (rw [v_X1_suspectWheels_16, if_pos c0_0]; done) | (rw [v_X1_suspectWheels_16, if_pos c0_0]; rfl) | (simp only [v_X1_suspectWheels_16, if_pos c0_0]; done)) (by first | (rw [v_X1_suspectWheels_17, if_pos c0_0]; done) | (rw [v_X1_suspectWheels_17, if_pos c0_0]; rfl) | (simp only [v_X1_suspectWheels_17, if_pos c0_0]; done)) (by first | (rw [v_X1_suspectWheels_18, if_pos c0_0]; done) | (rw [v_X1_suspectWheels_18, if_pos c0_0]; rfl) | (simp only [v_X1_suspectWheels_18, if_pos c0_0]; done)) (by first | (rw [v_X1_suspectWheels_19, if_pos c0_0]; done) | (rw [v_X1_suspectWheels_19, if_pos c0_0]; rfl) | (simp only [v_X1_suspectWheels_19, if_pos c0_0]; done)) (by first | (rw [v_X1_suspectWheels_20, if_pos c0_0]; done) | (rw [v_X1_suspectWheels_20, if_pos c0_0]; rfl) | (simp only [v_X1_suspectWheels_20, if_pos c0_0]; done)) (lv_sub hl [0, 1, 2] rfl) X
  refine lv_if_ne (tgt := 25) hx hb dX1_suspectWheels_16 (by decide) (fun c0_0 => ?_) (fun c0_0 => ?_)
  · exact J25_9 w0 fi lc lt lk lv _ _ _ (by first | (rw [v_X1_suspectWheels_1, if_neg c0_0]; done) | (rw [v_X1_suspectWheels_1, if_neg c0_0]; rfl) | (simp only [v_X1_suspectWheels_1, if_neg c0_0]; done)) (by first | (rw [v_X1_suspectWheels_2, if_neg c0_0]; done) | (rw [v_X1_suspectWheels_2, if_neg c0_0]; rfl) | (simp only [v_X1_suspectWheels_2, if_neg c0_0]; done)) (by first | (rw [v_X1_suspectWheels_3, if_neg c0_0]; done) | (rw [v_X1_suspectWheels_3, if_neg c0_0]; rfl) | (simp only [v_X1_suspectWheels_3, if_neg c0_0]; done)) (by first | (rw [v_X1_suspectWheels_4, if_neg c0_0]; done) | (rw [v_X1_suspectWheels_4, if_neg c0_0]; rfl) | (simp only [v_X1_suspectWheels_4, if_neg c0_0]; done)) (by first | (rw [v_X1_suspectWheels_5, if_neg c0_0]; done) | (rw [v_X1_suspectWheels_5, if_neg c0_0]; rfl) | (simp only [v_X1_suspectWheels_5, if_neg c0_0]; done)) (by first | (rw [v_X1_suspectWheels_6, if_neg c0_0]; done) | (rw [v_X1_suspectWheels_6, if_neg c0_0]; rfl) | (simp only [v_X1_suspectWheels_6, if_neg c0_0]; done)) (lv_sub hl [0, 1, 2] rfl) X
  · refine lv_aload_n hx hb dX1_suspectWheels_19 rfl (lv_at hl 1 rfl) ?_
    refine lv_iload_n hx hb dX1_suspectWheels_20 rfl (lv_at hl 0 rfl) ?_
    refine lv_iload_n hx hb dX1_suspectWheels_21 rfl (lv_at hl 2 rfl) ?_
    refine s_cVv (ws' := [(h, ctE z aw al), (aw, waE ty a0 a1 a2 a3), (a0, whE (f_X1_suspect_0_a0 z w0 f0) m0), (a1, whE w1 m1), (a2, whE w2 m2), (a3, whE w3 m3), (m0, arE ty 5 f0), (m1, arE ty 5 f1), (m2, arE ty 5 f2), (m3, arE ty 5 f3), (al, loE (f_X1_suspect_0_al_fi fi lc z w0 f0) (f_X1_suspect_0_al_lc lc z w0 f0) t k v), (t, arE ty 40 (f_X1_suspect_0_t fi lc z w0 f0 lt T)), (k, arE ty 40 (f_X1_suspect_0_k fi lc z w0 f0 lk)), (v, arE ty 40 (f_X1_suspect_0_v fi lc z w0 f0 lv))]) C hK hA X (c_X1_suspect_0 l D ty h aw al a0 a1 a2 a3 m0 t k v fi lc z w0 f0 lt lk lv T hk0 hg) [0, 1, 2, 6, 10, 11, 12, 13] (pk_c rfl (pk_c rfl (pk_c rfl (pk_c rfl (pk_c rfl (pk_c rfl (pk_c rfl (pk_c rfl pk_n)))))))) rfl (pk_c rfl (pk_c rfl (pk_c rfl (pk_c rfl (pk_c rfl (pk_c rfl (pk_c rfl (pk_c rfl pk_n)))))))) (em_t (em_t (em_t (em_f (em_f (em_f (em_t (em_f (em_f (em_f (em_t (em_t (em_t (em_t em_n)))))))))))))) rfl ml_X1_suspect wm_X1_117 (q0 := 0) rfl rfl rfl ⟨Nat.le_of_ble_eq_true rfl, Nat.le_of_ble_eq_true rfl⟩ ⟨Nat.zero_le _, Nat.zero_le _⟩ hl.1 rfl (Nat.le_of_ble_eq_true rfl) dX1_suspectWheels_22 (fun H locs X => ?_)
    exact J25_9 (f_X1_suspect_0_a0 z w0 f0) (f_X1_suspect_0_al_fi fi lc z w0 f0) (f_X1_suspect_0_al_lc lc z w0 f0) (f_X1_suspect_0_t fi lc z w0 f0 lt T) (f_X1_suspect_0_k fi lc z w0 f0 lk) (f_X1_suspect_0_v fi lc z w0 f0 lv) _ _ _ (by first | (rw [v_X1_suspectWheels_1, if_pos c0_0]; done) | (rw [v_X1_suspectWheels_1, if_pos c0_0]; rfl) | (simp only [v_X1_suspectWheels_1, if_pos c0_0]; done)) (by first | (rw [v_X1_suspectWheels_2, if_pos c0_0]; done) | (rw [v_X1_suspectWheels_2, if_pos c0_0]; rfl) | (simp only [v_X1_suspectWheels_2, if_pos c0_0]; done)) (by first | (rw [v_X1_suspectWheels_3, if_pos c0_0]; done) | (rw [v_X1_suspectWheels_3, if_pos c0_0]; rfl) | (simp only [v_X1_suspectWheels_3, if_pos c0_0]; done)) (by first | (rw [v_X1_suspectWheels_4, if_pos c0_0]; done) | (rw [v_X1_suspectWheels_4, if_pos c0_0]; rfl) | (simp only [v_X1_suspectWheels_4, if_pos c0_0]; done)) (by first | (rw [v_X1_suspectWheels_5, if_pos c0_0]; done) | (rw [v_X1_suspectWheels_5, if_pos c0_0]; rfl) | (simp only [v_X1_suspectWheels_5, if_pos c0_0]; done)) (by first | (rw [v_X1_suspectWheels_6, if_pos c0_0]; done) | (rw [v_X1_suspectWheels_6, if_pos c0_0]; rfl) | (simp only [v_X1_suspectWheels_6, if_pos c0_0]; done)) (lv_sub hl [0, 1, 2] rfl) X
def v_X1_selectLow_1 (w2 : F1) (w3 : F1) : Int32 := (if (f_X1_urgency (w3 14)) < (f_X1_urgency (w2 14)) then (w3 14) else (w2 14))
def f_X1_selectLow_a2 (w2 : F1) (w3 : F1) : F1 := (upd w2 14 (v_X1_selectLow_1 w2 w3))
def f_X1_selectLow_a3 (w2 : F1) (w3 : F1) : F1 := (upd w3 14 (v_X1_selectLow_1 w2 w3))
theorem ok_X1_selectLow_a2 (w2 : F1) (w3 : F1) (tk_a2 : kpOK w2) : kpOK (f_X1_selectLow_a2 w2 w3) := by
  (try simp only [f_X1_selectLow_a2]); exact (kp_upd tk_a2)
theorem ok_X1_selectLow_a3 (w2 : F1) (w3 : F1) (tk_a3 : kpOK w3) : kpOK (f_X1_selectLow_a3 w2 w3) := by
  (try simp only [f_X1_selectLow_a3]); exact (kp_upd tk_a3)
set_option maxHeartbeats 4000000 in
set_option maxRecDepth 100000 in
theorem c_X1_selectLow (l : Launch) (D : va_G) (ty : Nat → ClassId) (h : Nat) (aw : Nat) (al : Nat) (a2 : Nat) (a3 : Nat) (m2 : Nat) (m3 : Nat) (z : F1) (w2 : F1) (w3 : F1) : MC l D ty yX1_selectLow cX1_selectLow 4 none 1 [.ref h, .ref a2, .ref a3] [(h, ctE z aw al), (a2, whE w2 m2), (a3, whE w3 m3)] none [(h, ctE z aw al), (a2, whE (f_X1_selectLow_a2 w2 w3) m2), (a3, whE (f_X1_selectLow_a3 w2 w3) m3)] := by
  refine mc_v (by decide +kernel) (Nat.le_of_ble_eq_true rfl) ?_
  intro p e s m args below meth c A Q ls C hK hA X hret hl
  have hx := C.1
  have hb := C.2.1
  have hl : lv_has ls 4 [(0, .ref h), (1, .ref a2), (2, .ref a3)] := hl
  have X : Wd D A s.heap [(h, ctE z aw al), (a2, whE w2 m2), (a3, whE w3 m3)] s.heap [] := X
  refine lv_aload_n hx hb dX1_selectLow_0 rfl (lv_at hl 1 rfl) ?_
  refine get_wh_15 C hK X 1 rfl fl_X1_139 dX1_selectLow_1 ?_
  refine s_cS0i C hK hA X (c_X1_urgency l D ty (w2 14)) [] pk_n rfl sl_X1_urgency wm_X1_146 ⟨Nat.le_of_ble_eq_true rfl, Nat.le_of_ble_eq_true rfl⟩ ⟨Nat.zero_le _, Nat.zero_le _⟩ hl.1 rfl (Nat.le_of_ble_eq_true rfl) dX1_selectLow_4 (fun H locs X => ?_)
  refine lv_aload_n hx hb dX1_selectLow_7 rfl (lv_at hl 2 rfl) ?_
  refine get_wh_15 C hK X 2 rfl fl_X1_139 dX1_selectLow_8 ?_
  refine s_cS0i C hK hA X (c_X1_urgency l D ty (w3 14)) [] pk_n rfl sl_X1_urgency wm_X1_146 ⟨Nat.le_of_ble_eq_true rfl, Nat.le_of_ble_eq_true rfl⟩ ⟨Nat.zero_le _, Nat.zero_le _⟩ hl.1 rfl (Nat.le_of_ble_eq_true rfl) dX1_selectLow_11 (fun H locs X => ?_)
  have J28_2 : ∀ (x1 : Int32) (ls : Array Slot) (H : Heap) (locs : List Loc), x1 = (v_X1_selectLow_1 w2 w3) → lv_has ls 4 [(0, .ref h), (1, .ref a2), (2, .ref a3)] → Wd D A s.heap [(h, ctE z aw al), (a2, whE w2 m2), (a3, whE w3 m3)] H locs → W p l e (rmD 1) s m args below meth c H locs 0 0 Q (F0 m 28 ls [.int x1]) := by
    intro x1 ls H locs ex1 hl X
    subst ex1
    refine lv_istore_n (lv' := [(3, .int (v_X1_selectLow_1 w2 w3)), (0, .ref h), (1, .ref a2), (2, .ref a3)]) hx hb dX1_selectLow_28 rfl hl (by decide) rfl (fun ls hl => ?_)
    refine lv_aload_n hx hb dX1_selectLow_29 rfl (lv_at hl 2 rfl) ?_
    refine lv_iload_n hx hb dX1_selectLow_30 rfl (lv_at hl 0 rfl) ?_
    refine put_wh_15 C hK X 1 rfl pl_X1_139 dX1_selectLow_31 (fun H locs X => ?_)
    have X : Wd D A s.heap [(h, ctE z aw al), (a2, whE (upd w2 14 (v_X1_selectLow_1 w2 w3)) m2), (a3, whE w3 m3)] H locs := X
    refine lv_aload_n hx hb dX1_selectLow_34 rfl (lv_at hl 3 rfl) ?_
    refine lv_iload_n hx hb dX1_selectLow_35 rfl (lv_at hl 0 rfl) ?_
    refine put_wh_15 C hK X 2 rfl pl_X1_139 dX1_selectLow_36 (fun H locs X => ?_)
    have X : Wd D A s.heap [(h, ctE z aw al), (a2, whE (upd w2 14 (v_X1_selectLow_1 w2 w3)) m2), (a3, whE (upd w3 14 (v_X1_selectLow_1 w2 w3)) m3)] H locs := X
    have e_1_0 : (f_X1_selectLow_a2 w2 w3) = (upd w2 14 (v_X1_selectLow_1 w2 w3)) := by first | (rw [f_X1_selectLow_a2]; done) | (rw [f_X1_selectLow_a2]; rfl) | (simp only [f_X1_selectLow_a2]; done)
    have e_2_0 : (f_X1_selectLow_a3 w2 w3) = (upd w3 14 (v_X1_selectLow_1 w2 w3)) := by first | (rw [f_X1_selectLow_a3]; done) | (rw [f_X1_selectLow_a3]; rfl) | (simp only [f_X1_selectLow_a3]; done)
    exact hret _ _ _ _ _ dX1_selectLow_39 X (by rw [e_1_0, e_2_0])
  refine lv_icmp_gt (tgt := 24) hx hb dX1_selectLow_14 (by decide) (fun c0_0 => ?_) (fun c0_0 => ?_)
  · refine lv_aload_n hx hb dX1_selectLow_24 rfl (lv_at hl 2 rfl) ?_
    refine get_wh_15 C hK X 2 rfl fl_X1_139 dX1_selectLow_25 ?_
    exact J28_2 (w3 14) _ _ _ (by first | (rw [v_X1_selectLow_1, if_pos c0_0]; done) | (rw [v_X1_selectLow_1, if_pos c0_0]; rfl) | (simp only [v_X1_selectLow_1, if_pos c0_0]; done)) (lv_sub hl [0, 1, 2] rfl) X
  · refine lv_aload_n hx hb dX1_selectLow_17 rfl (lv_at hl 1 rfl) ?_
    refine get_wh_15 C hK X 1 rfl fl_X1_139 dX1_selectLow_18 ?_
    refine lv_goto (tgt := 28) hx hb dX1_selectLow_21 (by decide) ?_
    exact J28_2 (w2 14) _ _ _ (by first | (rw [v_X1_selectLow_1, if_neg c0_0]; done) | (rw [v_X1_selectLow_1, if_neg c0_0]; rfl) | (simp only [v_X1_selectLow_1, if_neg c0_0]; done)) (lv_sub hl [0, 1, 2] rfl) X
def v_X1_choosePhases_1 (z : F1) (w0 : F1) (w1 : F1) (w2 : F1) (w3 : F1) (dm : Int32) : Int32 := (if (f_X1_isActive z w0 w1 w2 w3 dm) = 0 then 0 else (if (f_X1_isFrontExcluded w0 w1) = 0 then 1 else 0))
def v_X1_choosePhases_3 (z : F1) (w0 : F1) (w1 : F1) (w2 : F1) (w3 : F1) (dm : Int32) : Int32 := (if (f_X1_isActive z w0 w1 w2 w3 dm) = 0 then 0 else (if (f_X1_isRearExcluded w2 w3) = 0 then 1 else 0))
def v_X1_choosePhases_5 (z : F1) (w0 : F1) (w1 : F1) (w2 : F1) (w3 : F1) (dm : Int32) : Int32 := (if (v_X1_choosePhases_1 z w0 w1 w2 w3 dm) = 0 then 0 else (f_X1_phaseAfter w0 dm))
def v_X1_choosePhases_7 (z : F1) (w0 : F1) (w1 : F1) (w2 : F1) (w3 : F1) (dm : Int32) : Int32 := (if (v_X1_choosePhases_1 z w0 w1 w2 w3 dm) = 0 then 0 else (f_X1_phaseAfter w1 dm))
def v_X1_choosePhases_9 (z : F1) (w0 : F1) (w1 : F1) (w2 : F1) (w3 : F1) (dm : Int32) : Int32 := (if (v_X1_choosePhases_3 z w0 w1 w2 w3 dm) = 0 then 0 else (f_X1_phaseAfter w2 dm))
def v_X1_choosePhases_11 (z : F1) (w0 : F1) (w1 : F1) (w2 : F1) (w3 : F1) (dm : Int32) : Int32 := (if (v_X1_choosePhases_3 z w0 w1 w2 w3 dm) = 0 then 0 else (f_X1_phaseAfter w3 dm))
def v_X1_choosePhases_13 (z : F1) (w0 : F1) (w1 : F1) (w2 : F1) (w3 : F1) (dm : Int32) : F1 := (f_X1_selectLow_a2 (upd w2 14 (v_X1_choosePhases_9 z w0 w1 w2 w3 dm)) (upd w3 14 (v_X1_choosePhases_11 z w0 w1 w2 w3 dm)))
theorem okm_X1_choosePhases_14 (z : F1) (w0 : F1) (w1 : F1) (w2 : F1) (w3 : F1) (dm : Int32) (tk_a2 : kpOK w2) : kpOK (v_X1_choosePhases_13 z w0 w1 w2 w3 dm) := by
  exact (ok_X1_selectLow_a2 (upd w2 14 (v_X1_choosePhases_9 z w0 w1 w2 w3 dm)) (upd w3 14 (v_X1_choosePhases_11 z w0 w1 w2 w3 dm)) (kp_upd tk_a2))
def v_X1_choosePhases_15 (z : F1) (w0 : F1) (w1 : F1) (w2 : F1) (w3 : F1) (dm : Int32) : F1 := (f_X1_selectLow_a3 (upd w2 14 (v_X1_choosePhases_9 z w0 w1 w2 w3 dm)) (upd w3 14 (v_X1_choosePhases_11 z w0 w1 w2 w3 dm)))
theorem okm_X1_choosePhases_16 (z : F1) (w0 : F1) (w1 : F1) (w2 : F1) (w3 : F1) (dm : Int32) (tk_a3 : kpOK w3) : kpOK (v_X1_choosePhases_15 z w0 w1 w2 w3 dm) := by
  exact (ok_X1_selectLow_a3 (upd w2 14 (v_X1_choosePhases_9 z w0 w1 w2 w3 dm)) (upd w3 14 (v_X1_choosePhases_11 z w0 w1 w2 w3 dm)) (kp_upd tk_a3))
def f_X1_choosePhases_a0 (z : F1) (w0 : F1) (w1 : F1) (w2 : F1) (w3 : F1) (dm : Int32) : F1 := (upd w0 14 (v_X1_choosePhases_5 z w0 w1 w2 w3 dm))
def f_X1_choosePhases_a1 (z : F1) (w0 : F1) (w1 : F1) (w2 : F1) (w3 : F1) (dm : Int32) : F1 := (upd w1 14 (v_X1_choosePhases_7 z w0 w1 w2 w3 dm))
def f_X1_choosePhases_a2 (z : F1) (w0 : F1) (w1 : F1) (w2 : F1) (w3 : F1) (dm : Int32) : F1 := (if (v_X1_choosePhases_3 z w0 w1 w2 w3 dm) = 0 then (upd w2 14 (v_X1_choosePhases_9 z w0 w1 w2 w3 dm)) else (v_X1_choosePhases_13 z w0 w1 w2 w3 dm))
def f_X1_choosePhases_a3 (z : F1) (w0 : F1) (w1 : F1) (w2 : F1) (w3 : F1) (dm : Int32) : F1 := (if (v_X1_choosePhases_3 z w0 w1 w2 w3 dm) = 0 then (upd w3 14 (v_X1_choosePhases_11 z w0 w1 w2 w3 dm)) else (v_X1_choosePhases_15 z w0 w1 w2 w3 dm))
theorem ok_X1_choosePhases_a0 (z : F1) (w0 : F1) (w1 : F1) (w2 : F1) (w3 : F1) (dm : Int32) (tk_a0 : kpOK w0) : kpOK (f_X1_choosePhases_a0 z w0 w1 w2 w3 dm) := by
  by_cases k0 : (v_X1_choosePhases_3 z w0 w1 w2 w3 dm) = 0
  · (try simp only [f_X1_choosePhases_a0, if_pos k0]); exact (kp_upd tk_a0)
  · (try simp only [f_X1_choosePhases_a0, if_neg k0]); exact (kp_upd tk_a0)
theorem ok_X1_choosePhases_a1 (z : F1) (w0 : F1) (w1 : F1) (w2 : F1) (w3 : F1) (dm : Int32) (tk_a1 : kpOK w1) : kpOK (f_X1_choosePhases_a1 z w0 w1 w2 w3 dm) := by
  by_cases k0 : (v_X1_choosePhases_3 z w0 w1 w2 w3 dm) = 0
  · (try simp only [f_X1_choosePhases_a1, if_pos k0]); exact (kp_upd tk_a1)
  · (try simp only [f_X1_choosePhases_a1, if_neg k0]); exact (kp_upd tk_a1)
theorem ok_X1_choosePhases_a2 (z : F1) (w0 : F1) (w1 : F1) (w2 : F1) (w3 : F1) (dm : Int32) (tk_a2 : kpOK w2) : kpOK (f_X1_choosePhases_a2 z w0 w1 w2 w3 dm) := by
  by_cases k0 : (v_X1_choosePhases_3 z w0 w1 w2 w3 dm) = 0
  · (try simp only [f_X1_choosePhases_a2, if_pos k0]); exact (kp_upd tk_a2)
  · (try simp only [f_X1_choosePhases_a2, if_neg k0]); exact (okm_X1_choosePhases_14 z w0 w1 w2 w3 dm tk_a2)
theorem ok_X1_choosePhases_a3 (z : F1) (w0 : F1) (w1 : F1) (w2 : F1) (w3 : F1) (dm : Int32) (tk_a3 : kpOK w3) : kpOK (f_X1_choosePhases_a3 z w0 w1 w2 w3 dm) := by
  by_cases k0 : (v_X1_choosePhases_3 z w0 w1 w2 w3 dm) = 0
  · (try simp only [f_X1_choosePhases_a3, if_pos k0]); exact (kp_upd tk_a3)
  · (try simp only [f_X1_choosePhases_a3, if_neg k0]); exact (okm_X1_choosePhases_16 z w0 w1 w2 w3 dm tk_a3)
set_option maxHeartbeats 4000000 in
set_option maxRecDepth 100000 in
theorem c_X1_choosePhases (l : Launch) (D : va_G) (ty : Nat → ClassId) (h : Nat) (aw : Nat) (al : Nat) (a0 : Nat) (a1 : Nat) (a2 : Nat) (a3 : Nat) (m0 : Nat) (m1 : Nat) (m2 : Nat) (m3 : Nat) (z : F1) (w0 : F1) (w1 : F1) (w2 : F1) (w3 : F1) (dm : Int32) : MC l D ty yX1_choosePhases cX1_choosePhases 7 none 2 [.ref h, .int dm] [(h, ctE z aw al), (aw, waE ty a0 a1 a2 a3), (a0, whE w0 m0), (a1, whE w1 m1), (a2, whE w2 m2), (a3, whE w3 m3)] none [(h, ctE z aw al), (aw, waE ty a0 a1 a2 a3), (a0, whE (f_X1_choosePhases_a0 z w0 w1 w2 w3 dm) m0), (a1, whE (f_X1_choosePhases_a1 z w0 w1 w2 w3 dm) m1), (a2, whE (f_X1_choosePhases_a2 z w0 w1 w2 w3 dm) m2), (a3, whE (f_X1_choosePhases_a3 z w0 w1 w2 w3 dm) m3)] := by
  refine mc_v (by decide +kernel) (Nat.le_of_ble_eq_true rfl) ?_
  intro p e s m args below meth c A Q ls C hK hA X hret hl
  have hx := C.1
  have hb := C.2.1
  have hl : lv_has ls 7 [(0, .ref h), (1, .int dm)] := hl
  have X : Wd D A s.heap [(h, ctE z aw al), (aw, waE ty a0 a1 a2 a3), (a0, whE w0 m0), (a1, whE w1 m1), (a2, whE w2 m2), (a3, whE w3 m3)] s.heap [] := X
  refine lv_aload_n hx hb dX1_choosePhases_0 rfl (lv_at hl 0 rfl) ?_
  refine lv_iload_n hx hb dX1_choosePhases_1 rfl (lv_at hl 1 rfl) ?_
  refine s_cV0i C hK hA X (c_X1_isActive l D ty h aw al a0 a1 a2 a3 m0 m1 m2 m3 z w0 w1 w2 w3 dm) [0, 1, 2, 3, 4, 5] (pk_c rfl (pk_c rfl (pk_c rfl (pk_c rfl (pk_c rfl (pk_c rfl pk_n)))))) rfl ml_X1_isActive wm_X1_124 (q0 := 0) rfl rfl rfl ⟨Nat.le_of_ble_eq_true rfl, Nat.le_of_ble_eq_true rfl⟩ ⟨Nat.zero_le _, Nat.zero_le _⟩ hl.1 rfl (Nat.le_of_ble_eq_true rfl) dX1_choosePhases_2 (fun H locs X => ?_)
  refine lv_istore_n (lv' := [(2, .int (f_X1_isActive z w0 w1 w2 w3 dm)), (0, .ref h), (1, .int dm)]) hx hb dX1_choosePhases_5 rfl hl (by decide) rfl (fun ls hl => ?_)
  refine lv_iload_n hx hb dX1_choosePhases_6 rfl (lv_at hl 0 rfl) ?_
  have J22_2 : ∀ (x1 : Int32) (ls : Array Slot) (H : Heap) (locs : List Loc), x1 = (v_X1_choosePhases_1 z w0 w1 w2 w3 dm) → lv_has ls 7 [(2, .int (f_X1_isActive z w0 w1 w2 w3 dm)), (0, .ref h), (1, .int dm)] → Wd D A s.heap [(h, ctE z aw al), (aw, waE ty a0 a1 a2 a3), (a0, whE w0 m0), (a1, whE w1 m1), (a2, whE w2 m2), (a3, whE w3 m3)] H locs → W p l e (rmD 2) s m args below meth c H locs 0 0 Q (F0 m 22 ls [.int x1]) := by
    intro x1 ls H locs ex1 hl X
    subst ex1
    refine lv_istore_n (lv' := [(3, .int (v_X1_choosePhases_1 z w0 w1 w2 w3 dm)), (2, .int (f_X1_isActive z w0 w1 w2 w3 dm)), (0, .ref h), (1, .int dm)]) hx hb dX1_choosePhases_22 rfl hl (by decide) rfl (fun ls hl => ?_)
    refine lv_iload_n hx hb dX1_choosePhases_23 rfl (lv_at hl 1 rfl) ?_
    have J39_4 : ∀ (x3 : Int32) (ls : Array Slot) (H : Heap) (locs : List Loc), x3 = (v_X1_choosePhases_3 z w0 w1 w2 w3 dm) → lv_has ls 7 [(3, .int (v_X1_choosePhases_1 z w0 w1 w2 w3 dm)), (2, .int (f_X1_isActive z w0 w1 w2 w3 dm)), (0, .ref h), (1, .int dm)] → Wd D A s.heap [(h, ctE z aw al), (aw, waE ty a0 a1 a2 a3), (a0, whE w0 m0), (a1, whE w1 m1), (a2, whE w2 m2), (a3, whE w3 m3)] H locs → W p l e (rmD 2) s m args below meth c H locs 0 0 Q (F0 m 39 ls [.int x3]) := by
      intro x3 ls H locs ex3 hl X
      subst ex3
      refine lv_istore (lv' := [(4, .int (v_X1_choosePhases_3 z w0 w1 w2 w3 dm)), (3, .int (v_X1_choosePhases_1 z w0 w1 w2 w3 dm)), (2, .int (f_X1_isActive z w0 w1 w2 w3 dm)), (0, .ref h), (1, .int dm)]) hx hb dX1_choosePhases_39 hl (by decide) rfl (fun ls hl => ?_)
      refine lv_iconst (v := 0) hx hb dX1_choosePhases_41 (by decide) ?_
      refine lv_istore (lv' := [(5, .int 0), (4, .int (v_X1_choosePhases_3 z w0 w1 w2 w3 dm)), (3, .int (v_X1_choosePhases_1 z w0 w1 w2 w3 dm)), (2, .int (f_X1_isActive z w0 w1 w2 w3 dm)), (0, .ref h), (1, .int dm)]) hx hb dX1_choosePhases_42 hl (by decide) rfl (fun ls hl => ?_)
      refine lv_iload hx hb dX1_choosePhases_44 (lv_at hl 0 rfl) ?_
      refine lv_iconst (v := 4) hx hb dX1_choosePhases_46 (by decide) ?_
      refine lv_icmp_ge (tgt := 100) hx hb dX1_choosePhases_47 (by decide) (fun c0 => absurd c0 (by decide)) (fun _ => ?_)
      refine lv_iload hx hb dX1_choosePhases_50 (lv_at hl 0 rfl) ?_
      refine lv_iconst (v := 2) hx hb dX1_choosePhases_52 (by decide) ?_
      refine lv_icmp_ge (tgt := 60) hx hb dX1_choosePhases_53 (by decide) (fun c0 => absurd c0 (by decide)) (fun _ => ?_)
      refine lv_iload_n hx hb dX1_choosePhases_56 rfl (lv_at hl 2 rfl) ?_
      refine lv_goto (tgt := 62) hx hb dX1_choosePhases_57 (by decide) ?_
      refine lv_istore (lv' := [(6, .int (v_X1_choosePhases_1 z w0 w1 w2 w3 dm)), (5, .int 0), (4, .int (v_X1_choosePhases_3 z w0 w1 w2 w3 dm)), (3, .int (v_X1_choosePhases_1 z w0 w1 w2 w3 dm)), (2, .int (f_X1_isActive z w0 w1 w2 w3 dm)), (0, .ref h), (1, .int dm)]) hx hb dX1_choosePhases_62 hl (by decide) rfl (fun ls hl => ?_)
      refine lv_aload_n hx hb dX1_choosePhases_64 rfl (lv_at hl 5 rfl) ?_
      refine get_ct_0 C hK X 0 rfl fl_X1_11 dX1_choosePhases_65 ?_
      refine lv_iload hx hb dX1_choosePhases_68 (lv_at hl 1 rfl) ?_
      refine s_aald (t0 := 2) (b := a0) C hK X 1 rfl rfl (vp_in_nI (n := 0) (by decide) (by decide)) rfl dX1_choosePhases_70 ?_
      refine lv_iload hx hb dX1_choosePhases_71 (lv_at hl 0 rfl) ?_
      have J91_6 : ∀ (x5 : Int32) (ls : Array Slot) (H : Heap) (locs : List Loc), x5 = (v_X1_choosePhases_5 z w0 w1 w2 w3 dm) → lv_has ls 7 [(6, .int (v_X1_choosePhases_1 z w0 w1 w2 w3 dm)), (5, .int 0), (4, .int (v_X1_choosePhases_3 z w0 w1 w2 w3 dm)), (3, .int (v_X1_choosePhases_1 z w0 w1 w2 w3 dm)), (2, .int (f_X1_isActive z w0 w1 w2 w3 dm)), (0, .ref h), (1, .int dm)] → Wd D A s.heap [(h, ctE z aw al), (aw, waE ty a0 a1 a2 a3), (a0, whE w0 m0), (a1, whE w1 m1), (a2, whE w2 m2), (a3, whE w3 m3)] H locs → W p l e (rmD 2) s m args below meth c H locs 0 0 Q (F0 m 91 ls [.int x5, .ref a0]) := by
        intro x5 ls H locs ex5 hl X
        subst ex5
        refine put_wh_15 C hK X 2 rfl pl_X1_139 dX1_choosePhases_91 (fun H locs X => ?_)
        have X : Wd D A s.heap [(h, ctE z aw al), (aw, waE ty a0 a1 a2 a3), (a0, whE (upd w0 14 (v_X1_choosePhases_5 z w0 w1 w2 w3 dm)) m0), (a1, whE w1 m1), (a2, whE w2 m2), (a3, whE w3 m3)] H locs := X
        refine lv_iinc (v := 1) (lv' := [(5, .int 1), (6, .int (v_X1_choosePhases_1 z w0 w1 w2 w3 dm)), (4, .int (v_X1_choosePhases_3 z w0 w1 w2 w3 dm)), (3, .int (v_X1_choosePhases_1 z w0 w1 w2 w3 dm)), (2, .int (f_X1_isActive z w0 w1 w2 w3 dm)), (0, .ref h), (1, .int dm)]) hx hb dX1_choosePhases_94 hl (k := 1) rfl (by decide) (by decide) rfl (fun ls hl => ?_)
        refine lv_goto (tgt := 44) hx hb dX1_choosePhases_97 (by decide) ?_
        refine lv_iload hx hb dX1_choosePhases_44 (lv_at hl 0 rfl) ?_
        refine lv_iconst (v := 4) hx hb dX1_choosePhases_46 (by decide) ?_
        refine lv_icmp_ge (tgt := 100) hx hb dX1_choosePhases_47 (by decide) (fun c0 => absurd c0 (by decide)) (fun _ => ?_)
        refine lv_iload hx hb dX1_choosePhases_50 (lv_at hl 0 rfl) ?_
        refine lv_iconst (v := 2) hx hb dX1_choosePhases_52 (by decide) ?_
        refine lv_icmp_ge (tgt := 60) hx hb dX1_choosePhases_53 (by decide) (fun c0 => absurd c0 (by decide)) (fun _ => ?_)
        refine lv_iload_n hx hb dX1_choosePhases_56 rfl (lv_at hl 3 rfl) ?_
        refine lv_goto (tgt := 62) hx hb dX1_choosePhases_57 (by decide) ?_
        refine lv_istore (lv' := [(6, .int (v_X1_choosePhases_1 z w0 w1 w2 w3 dm)), (5, .int 1), (4, .int (v_X1_choosePhases_3 z w0 w1 w2 w3 dm)), (3, .int (v_X1_choosePhases_1 z w0 w1 w2 w3 dm)), (2, .int (f_X1_isActive z w0 w1 w2 w3 dm)), (0, .ref h), (1, .int dm)]) hx hb dX1_choosePhases_62 hl (by decide) rfl (fun ls hl => ?_)
        refine lv_aload_n hx hb dX1_choosePhases_64 rfl (lv_at hl 5 rfl) ?_
        refine get_ct_0 C hK X 0 rfl fl_X1_11 dX1_choosePhases_65 ?_
        refine lv_iload hx hb dX1_choosePhases_68 (lv_at hl 1 rfl) ?_
        refine s_aald (t0 := 2) (b := a1) C hK X 1 rfl rfl (vp_in_nI (n := 1) (by decide) (by decide)) rfl dX1_choosePhases_70 ?_
        refine lv_iload hx hb dX1_choosePhases_71 (lv_at hl 0 rfl) ?_
        have J91_8 : ∀ (x7 : Int32) (ls : Array Slot) (H : Heap) (locs : List Loc), x7 = (v_X1_choosePhases_7 z w0 w1 w2 w3 dm) → lv_has ls 7 [(6, .int (v_X1_choosePhases_1 z w0 w1 w2 w3 dm)), (5, .int 1), (4, .int (v_X1_choosePhases_3 z w0 w1 w2 w3 dm)), (3, .int (v_X1_choosePhases_1 z w0 w1 w2 w3 dm)), (2, .int (f_X1_isActive z w0 w1 w2 w3 dm)), (0, .ref h), (1, .int dm)] → Wd D A s.heap [(h, ctE z aw al), (aw, waE ty a0 a1 a2 a3), (a0, whE (upd w0 14 (v_X1_choosePhases_5 z w0 w1 w2 w3 dm)) m0), (a1, whE w1 m1), (a2, whE w2 m2), (a3, whE w3 m3)] H locs → W p l e (rmD 2) s m args below meth c H locs 0 0 Q (F0 m 91 ls [.int x7, .ref a1]) := by
          intro x7 ls H locs ex7 hl X
          subst ex7
          refine put_wh_15 C hK X 3 rfl pl_X1_139 dX1_choosePhases_91 (fun H locs X => ?_)
          have X : Wd D A s.heap [(h, ctE z aw al), (aw, waE ty a0 a1 a2 a3), (a0, whE (upd w0 14 (v_X1_choosePhases_5 z w0 w1 w2 w3 dm)) m0), (a1, whE (upd w1 14 (v_X1_choosePhases_7 z w0 w1 w2 w3 dm)) m1), (a2, whE w2 m2), (a3, whE w3 m3)] H locs := X
          refine lv_iinc (v := 2) (lv' := [(5, .int 2), (6, .int (v_X1_choosePhases_1 z w0 w1 w2 w3 dm)), (4, .int (v_X1_choosePhases_3 z w0 w1 w2 w3 dm)), (3, .int (v_X1_choosePhases_1 z w0 w1 w2 w3 dm)), (2, .int (f_X1_isActive z w0 w1 w2 w3 dm)), (0, .ref h), (1, .int dm)]) hx hb dX1_choosePhases_94 hl (k := 1) rfl (by decide) (by decide) rfl (fun ls hl => ?_)
          refine lv_goto (tgt := 44) hx hb dX1_choosePhases_97 (by decide) ?_
          refine lv_iload hx hb dX1_choosePhases_44 (lv_at hl 0 rfl) ?_
          refine lv_iconst (v := 4) hx hb dX1_choosePhases_46 (by decide) ?_
          refine lv_icmp_ge (tgt := 100) hx hb dX1_choosePhases_47 (by decide) (fun c0 => absurd c0 (by decide)) (fun _ => ?_)
          refine lv_iload hx hb dX1_choosePhases_50 (lv_at hl 0 rfl) ?_
          refine lv_iconst (v := 2) hx hb dX1_choosePhases_52 (by decide) ?_
          refine lv_icmp_ge (tgt := 60) hx hb dX1_choosePhases_53 (by decide) (fun _ => ?_) (fun c0 => absurd (by decide) c0)
          refine lv_iload hx hb dX1_choosePhases_60 (lv_at hl 2 rfl) ?_
          refine lv_istore (lv' := [(6, .int (v_X1_choosePhases_3 z w0 w1 w2 w3 dm)), (5, .int 2), (4, .int (v_X1_choosePhases_3 z w0 w1 w2 w3 dm)), (3, .int (v_X1_choosePhases_1 z w0 w1 w2 w3 dm)), (2, .int (f_X1_isActive z w0 w1 w2 w3 dm)), (0, .ref h), (1, .int dm)]) hx hb dX1_choosePhases_62 hl (by decide) rfl (fun ls hl => ?_)
          refine lv_aload_n hx hb dX1_choosePhases_64 rfl (lv_at hl 5 rfl) ?_
          refine get_ct_0 C hK X 0 rfl fl_X1_11 dX1_choosePhases_65 ?_
          refine lv_iload hx hb dX1_choosePhases_68 (lv_at hl 1 rfl) ?_
          refine s_aald (t0 := 2) (b := a2) C hK X 1 rfl rfl (vp_in_nI (n := 2) (by decide) (by decide)) rfl dX1_choosePhases_70 ?_
          refine lv_iload hx hb dX1_choosePhases_71 (lv_at hl 0 rfl) ?_
          have J91_10 : ∀ (x9 : Int32) (ls : Array Slot) (H : Heap) (locs : List Loc), x9 = (v_X1_choosePhases_9 z w0 w1 w2 w3 dm) → lv_has ls 7 [(6, .int (v_X1_choosePhases_3 z w0 w1 w2 w3 dm)), (5, .int 2), (4, .int (v_X1_choosePhases_3 z w0 w1 w2 w3 dm)), (3, .int (v_X1_choosePhases_1 z w0 w1 w2 w3 dm)), (2, .int (f_X1_isActive z w0 w1 w2 w3 dm)), (0, .ref h), (1, .int dm)] → Wd D A s.heap [(h, ctE z aw al), (aw, waE ty a0 a1 a2 a3), (a0, whE (upd w0 14 (v_X1_choosePhases_5 z w0 w1 w2 w3 dm)) m0), (a1, whE (upd w1 14 (v_X1_choosePhases_7 z w0 w1 w2 w3 dm)) m1), (a2, whE w2 m2), (a3, whE w3 m3)] H locs → W p l e (rmD 2) s m args below meth c H locs 0 0 Q (F0 m 91 ls [.int x9, .ref a2]) := by
            intro x9 ls H locs ex9 hl X
            subst ex9
            refine put_wh_15 C hK X 4 rfl pl_X1_139 dX1_choosePhases_91 (fun H locs X => ?_)
            have X : Wd D A s.heap [(h, ctE z aw al), (aw, waE ty a0 a1 a2 a3), (a0, whE (upd w0 14 (v_X1_choosePhases_5 z w0 w1 w2 w3 dm)) m0), (a1, whE (upd w1 14 (v_X1_choosePhases_7 z w0 w1 w2 w3 dm)) m1), (a2, whE (upd w2 14 (v_X1_choosePhases_9 z w0 w1 w2 w3 dm)) m2), (a3, whE w3 m3)] H locs := X
            refine lv_iinc (v := 3) (lv' := [(5, .int 3), (6, .int (v_X1_choosePhases_3 z w0 w1 w2 w3 dm)), (4, .int (v_X1_choosePhases_3 z w0 w1 w2 w3 dm)), (3, .int (v_X1_choosePhases_1 z w0 w1 w2 w3 dm)), (2, .int (f_X1_isActive z w0 w1 w2 w3 dm)), (0, .ref h), (1, .int dm)]) hx hb dX1_choosePhases_94 hl (k := 1) rfl (by decide) (by decide) rfl (fun ls hl => ?_)
            refine lv_goto (tgt := 44) hx hb dX1_choosePhases_97 (by decide) ?_
            refine lv_iload hx hb dX1_choosePhases_44 (lv_at hl 0 rfl) ?_
            refine lv_iconst (v := 4) hx hb dX1_choosePhases_46 (by decide) ?_
            refine lv_icmp_ge (tgt := 100) hx hb dX1_choosePhases_47 (by decide) (fun c0 => absurd c0 (by decide)) (fun _ => ?_)
            refine lv_iload hx hb dX1_choosePhases_50 (lv_at hl 0 rfl) ?_
            refine lv_iconst (v := 2) hx hb dX1_choosePhases_52 (by decide) ?_
            refine lv_icmp_ge (tgt := 60) hx hb dX1_choosePhases_53 (by decide) (fun _ => ?_) (fun c0 => absurd (by decide) c0)
            refine lv_iload hx hb dX1_choosePhases_60 (lv_at hl 2 rfl) ?_
            refine lv_istore (lv' := [(6, .int (v_X1_choosePhases_3 z w0 w1 w2 w3 dm)), (5, .int 3), (4, .int (v_X1_choosePhases_3 z w0 w1 w2 w3 dm)), (3, .int (v_X1_choosePhases_1 z w0 w1 w2 w3 dm)), (2, .int (f_X1_isActive z w0 w1 w2 w3 dm)), (0, .ref h), (1, .int dm)]) hx hb dX1_choosePhases_62 hl (by decide) rfl (fun ls hl => ?_)
            refine lv_aload_n hx hb dX1_choosePhases_64 rfl (lv_at hl 5 rfl) ?_
            refine get_ct_0 C hK X 0 rfl fl_X1_11 dX1_choosePhases_65 ?_
            refine lv_iload hx hb dX1_choosePhases_68 (lv_at hl 1 rfl) ?_
            refine s_aald (t0 := 2) (b := a3) C hK X 1 rfl rfl (vp_in_nI (n := 3) (by decide) (by decide)) rfl dX1_choosePhases_70 ?_
            refine lv_iload hx hb dX1_choosePhases_71 (lv_at hl 0 rfl) ?_
            have J91_12 : ∀ (x11 : Int32) (ls : Array Slot) (H : Heap) (locs : List Loc), x11 = (v_X1_choosePhases_11 z w0 w1 w2 w3 dm) → lv_has ls 7 [(6, .int (v_X1_choosePhases_3 z w0 w1 w2 w3 dm)), (5, .int 3), (4, .int (v_X1_choosePhases_3 z w0 w1 w2 w3 dm)), (3, .int (v_X1_choosePhases_1 z w0 w1 w2 w3 dm)), (2, .int (f_X1_isActive z w0 w1 w2 w3 dm)), (0, .ref h), (1, .int dm)] → Wd D A s.heap [(h, ctE z aw al), (aw, waE ty a0 a1 a2 a3), (a0, whE (upd w0 14 (v_X1_choosePhases_5 z w0 w1 w2 w3 dm)) m0), (a1, whE (upd w1 14 (v_X1_choosePhases_7 z w0 w1 w2 w3 dm)) m1), (a2, whE (upd w2 14 (v_X1_choosePhases_9 z w0 w1 w2 w3 dm)) m2), (a3, whE w3 m3)] H locs → W p l e (rmD 2) s m args below meth c H locs 0 0 Q (F0 m 91 ls [.int x11, .ref a3]) := by
              intro x11 ls H locs ex11 hl X
              subst ex11
              refine put_wh_15 C hK X 5 rfl pl_X1_139 dX1_choosePhases_91 (fun H locs X => ?_)
              have X : Wd D A s.heap [(h, ctE z aw al), (aw, waE ty a0 a1 a2 a3), (a0, whE (upd w0 14 (v_X1_choosePhases_5 z w0 w1 w2 w3 dm)) m0), (a1, whE (upd w1 14 (v_X1_choosePhases_7 z w0 w1 w2 w3 dm)) m1), (a2, whE (upd w2 14 (v_X1_choosePhases_9 z w0 w1 w2 w3 dm)) m2), (a3, whE (upd w3 14 (v_X1_choosePhases_11 z w0 w1 w2 w3 dm)) m3)] H locs := X
              refine lv_iinc (v := 4) (lv' := [(5, .int 4), (6, .int (v_X1_choosePhases_3 z w0 w1 w2 w3 dm)), (4, .int (v_X1_choosePhases_3 z w0 w1 w2 w3 dm)), (3, .int (v_X1_choosePhases_1 z w0 w1 w2 w3 dm)), (2, .int (f_X1_isActive z w0 w1 w2 w3 dm)), (0, .ref h), (1, .int dm)]) hx hb dX1_choosePhases_94 hl (k := 1) rfl (by decide) (by decide) rfl (fun ls hl => ?_)
              refine lv_goto (tgt := 44) hx hb dX1_choosePhases_97 (by decide) ?_
              refine lv_iload hx hb dX1_choosePhases_44 (lv_at hl 0 rfl) ?_
              refine lv_iconst (v := 4) hx hb dX1_choosePhases_46 (by decide) ?_
              refine lv_icmp_ge (tgt := 100) hx hb dX1_choosePhases_47 (by decide) (fun _ => ?_) (fun c0 => absurd (by decide) c0)
              refine lv_iload hx hb dX1_choosePhases_100 (lv_at hl 2 rfl) ?_
              refine lv_if_eq (tgt := 121) hx hb dX1_choosePhases_102 (by decide) (fun c0_0 => ?_) (fun c0_0 => ?_)
              · have e_2_0 : (f_X1_choosePhases_a0 z w0 w1 w2 w3 dm) = (upd w0 14 (v_X1_choosePhases_5 z w0 w1 w2 w3 dm)) := by first | (rw [f_X1_choosePhases_a0]; done) | (rw [f_X1_choosePhases_a0]; rfl) | (simp only [f_X1_choosePhases_a0]; done)
                have e_3_0 : (f_X1_choosePhases_a1 z w0 w1 w2 w3 dm) = (upd w1 14 (v_X1_choosePhases_7 z w0 w1 w2 w3 dm)) := by first | (rw [f_X1_choosePhases_a1]; done) | (rw [f_X1_choosePhases_a1]; rfl) | (simp only [f_X1_choosePhases_a1]; done)
                have e_4_0 : (f_X1_choosePhases_a2 z w0 w1 w2 w3 dm) = (upd w2 14 (v_X1_choosePhases_9 z w0 w1 w2 w3 dm)) := by first | (rw [f_X1_choosePhases_a2, if_pos c0_0]; done) | (rw [f_X1_choosePhases_a2, if_pos c0_0]; rfl) | (simp only [f_X1_choosePhases_a2, if_pos c0_0]; done)
                have e_5_0 : (f_X1_choosePhases_a3 z w0 w1 w2 w3 dm) = (upd w3 14 (v_X1_choosePhases_11 z w0 w1 w2 w3 dm)) := by first | (rw [f_X1_choosePhases_a3, if_pos c0_0]; done) | (rw [f_X1_choosePhases_a3, if_pos c0_0]; rfl) | (simp only [f_X1_choosePhases_a3, if_pos c0_0]; done)
                exact hret _ _ _ _ _ dX1_choosePhases_121 X (by rw [e_2_0, e_3_0, e_4_0, e_5_0])
              · refine lv_aload_n hx hb dX1_choosePhases_105 rfl (lv_at hl 5 rfl) ?_
                refine lv_aload_n hx hb dX1_choosePhases_106 rfl (lv_at hl 5 rfl) ?_
                refine get_ct_0 C hK X 0 rfl fl_X1_11 dX1_choosePhases_107 ?_
                refine lv_iconst (v := 2) hx hb dX1_choosePhases_110 (by decide) ?_
                refine s_aald (t0 := 2) (b := a2) C hK X 1 rfl rfl (vp_in_nI (n := 2) (by decide) (by decide)) rfl dX1_choosePhases_111 ?_
                refine lv_aload_n hx hb dX1_choosePhases_112 rfl (lv_at hl 5 rfl) ?_
                refine get_ct_0 C hK X 0 rfl fl_X1_11 dX1_choosePhases_113 ?_
                refine lv_iconst (v := 3) hx hb dX1_choosePhases_116 (by decide) ?_
                refine s_aald (t0 := 2) (b := a3) C hK X 1 rfl rfl (vp_in_nI (n := 3) (by decide) (by decide)) rfl dX1_choosePhases_117 ?_
                refine s_cVv (ws' := [(h, ctE z aw al), (aw, waE ty a0 a1 a2 a3), (a0, whE (upd w0 14 (v_X1_choosePhases_5 z w0 w1 w2 w3 dm)) m0), (a1, whE (upd w1 14 (v_X1_choosePhases_7 z w0 w1 w2 w3 dm)) m1), (a2, whE (v_X1_choosePhases_13 z w0 w1 w2 w3 dm) m2), (a3, whE (v_X1_choosePhases_15 z w0 w1 w2 w3 dm) m3)]) C hK hA X (c_X1_selectLow l D ty h aw al a2 a3 m2 m3 z (upd w2 14 (v_X1_choosePhases_9 z w0 w1 w2 w3 dm)) (upd w3 14 (v_X1_choosePhases_11 z w0 w1 w2 w3 dm))) [0, 4, 5] (pk_c rfl (pk_c rfl (pk_c rfl pk_n))) rfl (pk_c rfl (pk_c rfl (pk_c rfl pk_n))) (em_t (em_f (em_f (em_f (em_t (em_t em_n)))))) rfl ml_X1_selectLow wm_X1_142 (q0 := 0) rfl rfl rfl ⟨Nat.le_of_ble_eq_true rfl, Nat.le_of_ble_eq_true rfl⟩ ⟨Nat.zero_le _, Nat.zero_le _⟩ hl.1 rfl (Nat.le_of_ble_eq_true rfl) dX1_choosePhases_118 (fun H locs X => ?_)
                have e_2_0 : (f_X1_choosePhases_a0 z w0 w1 w2 w3 dm) = (upd w0 14 (v_X1_choosePhases_5 z w0 w1 w2 w3 dm)) := by first | (rw [f_X1_choosePhases_a0]; done) | (rw [f_X1_choosePhases_a0]; rfl) | (simp only [f_X1_choosePhases_a0]; done)
                have e_3_0 : (f_X1_choosePhases_a1 z w0 w1 w2 w3 dm) = (upd w1 14 (v_X1_choosePhases_7 z w0 w1 w2 w3 dm)) := by first | (rw [f_X1_choosePhases_a1]; done) | (rw [f_X1_choosePhases_a1]; rfl) | (simp only [f_X1_choosePhases_a1]; done)
                have e_4_0 : (f_X1_choosePhases_a2 z w0 w1 w2 w3 dm) = (v_X1_choosePhases_13 z w0 w1 w2 w3 dm) := by first | (rw [f_X1_choosePhases_a2, if_neg c0_0]; done) | (rw [f_X1_choosePhases_a2, if_neg c0_0]; rfl) | (simp only [f_X1_choosePhases_a2, if_neg c0_0]; done)
                have e_5_0 : (f_X1_choosePhases_a3 z w0 w1 w2 w3 dm) = (v_X1_choosePhases_15 z w0 w1 w2 w3 dm) := by first | (rw [f_X1_choosePhases_a3, if_neg c0_0]; done) | (rw [f_X1_choosePhases_a3, if_neg c0_0]; rfl) | (simp only [f_X1_choosePhases_a3, if_neg c0_0]; done)
                exact hret _ _ _ _ _ dX1_choosePhases_121 X (by rw [e_2_0, e_3_0, e_4_0, e_5_0])
            refine lv_if_eq (tgt := 90) hx hb dX1_choosePhases_73 (by decide) (fun c0_0 => ?_) (fun c0_0 => ?_)
            · refine lv_iconst (v := 0) hx hb dX1_choosePhases_90 (by decide) ?_
              exact J91_12 0 _ _ _ (by first | (rw [v_X1_choosePhases_11, if_pos c0_0]; done) | (rw [v_X1_choosePhases_11, if_pos c0_0]; rfl) | (simp only [v_X1_choosePhases_11, if_pos c0_0]; done)) (lv_sub hl [0, 1, 2, 3, 4, 5, 6] rfl) X
            · refine lv_aload_n hx hb dX1_choosePhases_76 rfl (lv_at hl 5 rfl) ?_
              refine get_ct_0 C hK X 0 rfl fl_X1_11 dX1_choosePhases_77 ?_
              refine lv_iload hx hb dX1_choosePhases_80 (lv_at hl 1 rfl) ?_
              refine s_aald (t0 := 2) (b := a3) C hK X 1 rfl rfl (vp_in_nI (n := 3) (by decide) (by decide)) rfl dX1_choosePhases_82 ?_
              refine lv_iload_n hx hb dX1_choosePhases_83 rfl (lv_at hl 6 rfl) ?_
              refine s_cS0i C hK hA X (c_X1_phaseAfter l D ty a3 m3 w3 dm) [5] (pk_c rfl pk_n) rfl sl_X1_phaseAfter wm_X1_135 ⟨Nat.le_of_ble_eq_true rfl, Nat.le_of_ble_eq_true rfl⟩ ⟨Nat.zero_le _, Nat.zero_le _⟩ hl.1 rfl (Nat.le_of_ble_eq_true rfl) dX1_choosePhases_84 (fun H locs X => ?_)
              refine lv_goto (tgt := 91) hx hb dX1_choosePhases_87 (by decide) ?_
              exact J91_12 (f_X1_phaseAfter w3 dm) _ _ _ (by first | (rw [v_X1_choosePhases_11, if_neg c0_0]; done) | (rw [v_X1_choosePhases_11, if_neg c0_0]; rfl) | (simp only [v_X1_choosePhases_11, if_neg c0_0]; done)) (lv_sub hl [0, 1, 2, 3, 4, 5, 6] rfl) X
          refine lv_if_eq (tgt := 90) hx hb dX1_choosePhases_73 (by decide) (fun c0_0 => ?_) (fun c0_0 => ?_)
          · refine lv_iconst (v := 0) hx hb dX1_choosePhases_90 (by decide) ?_
            exact J91_10 0 _ _ _ (by first | (rw [v_X1_choosePhases_9, if_pos c0_0]; done) | (rw [v_X1_choosePhases_9, if_pos c0_0]; rfl) | (simp only [v_X1_choosePhases_9, if_pos c0_0]; done)) (lv_sub hl [0, 1, 2, 3, 4, 5, 6] rfl) X
          · refine lv_aload_n hx hb dX1_choosePhases_76 rfl (lv_at hl 5 rfl) ?_
            refine get_ct_0 C hK X 0 rfl fl_X1_11 dX1_choosePhases_77 ?_
            refine lv_iload hx hb dX1_choosePhases_80 (lv_at hl 1 rfl) ?_
            refine s_aald (t0 := 2) (b := a2) C hK X 1 rfl rfl (vp_in_nI (n := 2) (by decide) (by decide)) rfl dX1_choosePhases_82 ?_
            refine lv_iload_n hx hb dX1_choosePhases_83 rfl (lv_at hl 6 rfl) ?_
            refine s_cS0i C hK hA X (c_X1_phaseAfter l D ty a2 m2 w2 dm) [4] (pk_c rfl pk_n) rfl sl_X1_phaseAfter wm_X1_135 ⟨Nat.le_of_ble_eq_true rfl, Nat.le_of_ble_eq_true rfl⟩ ⟨Nat.zero_le _, Nat.zero_le _⟩ hl.1 rfl (Nat.le_of_ble_eq_true rfl) dX1_choosePhases_84 (fun H locs X => ?_)
            refine lv_goto (tgt := 91) hx hb dX1_choosePhases_87 (by decide) ?_
            exact J91_10 (f_X1_phaseAfter w2 dm) _ _ _ (by first | (rw [v_X1_choosePhases_9, if_neg c0_0]; done) | (rw [v_X1_choosePhases_9, if_neg c0_0]; rfl) | (simp only [v_X1_choosePhases_9, if_neg c0_0]; done)) (lv_sub hl [0, 1, 2, 3, 4, 5, 6] rfl) X
        refine lv_if_eq (tgt := 90) hx hb dX1_choosePhases_73 (by decide) (fun c0_0 => ?_) (fun c0_0 => ?_)
        · refine lv_iconst (v := 0) hx hb dX1_choosePhases_90 (by decide) ?_
          exact J91_8 0 _ _ _ (by first | (rw [v_X1_choosePhases_7, if_pos c0_0]; done) | (rw [v_X1_choosePhases_7, if_pos c0_0]; rfl) | (simp only [v_X1_choosePhases_7, if_pos c0_0]; done)) (lv_sub hl [0, 1, 2, 3, 4, 5, 6] rfl) X
        · refine lv_aload_n hx hb dX1_choosePhases_76 rfl (lv_at hl 5 rfl) ?_
          refine get_ct_0 C hK X 0 rfl fl_X1_11 dX1_choosePhases_77 ?_
          refine lv_iload hx hb dX1_choosePhases_80 (lv_at hl 1 rfl) ?_
          refine s_aald (t0 := 2) (b := a1) C hK X 1 rfl rfl (vp_in_nI (n := 1) (by decide) (by decide)) rfl dX1_choosePhases_82 ?_
          refine lv_iload_n hx hb dX1_choosePhases_83 rfl (lv_at hl 6 rfl) ?_
          refine s_cS0i C hK hA X (c_X1_phaseAfter l D ty a1 m1 w1 dm) [3] (pk_c rfl pk_n) rfl sl_X1_phaseAfter wm_X1_135 ⟨Nat.le_of_ble_eq_true rfl, Nat.le_of_ble_eq_true rfl⟩ ⟨Nat.zero_le _, Nat.zero_le _⟩ hl.1 rfl (Nat.le_of_ble_eq_true rfl) dX1_choosePhases_84 (fun H locs X => ?_)
          refine lv_goto (tgt := 91) hx hb dX1_choosePhases_87 (by decide) ?_
          exact J91_8 (f_X1_phaseAfter w1 dm) _ _ _ (by first | (rw [v_X1_choosePhases_7, if_neg c0_0]; done) | (rw [v_X1_choosePhases_7, if_neg c0_0]; rfl) | (simp only [v_X1_choosePhases_7, if_neg c0_0]; done)) (lv_sub hl [0, 1, 2, 3, 4, 5, 6] rfl) X
      refine lv_if_eq (tgt := 90) hx hb dX1_choosePhases_73 (by decide) (fun c0_0 => ?_) (fun c0_0 => ?_)
      · refine lv_iconst (v := 0) hx hb dX1_choosePhases_90 (by decide) ?_
        exact J91_6 0 _ _ _ (by first | (rw [v_X1_choosePhases_5, if_pos c0_0]; done) | (rw [v_X1_choosePhases_5, if_pos c0_0]; rfl) | (simp only [v_X1_choosePhases_5, if_pos c0_0]; done)) (lv_sub hl [0, 1, 2, 3, 4, 5, 6] rfl) X
      · refine lv_aload_n hx hb dX1_choosePhases_76 rfl (lv_at hl 5 rfl) ?_
        refine get_ct_0 C hK X 0 rfl fl_X1_11 dX1_choosePhases_77 ?_
        refine lv_iload hx hb dX1_choosePhases_80 (lv_at hl 1 rfl) ?_
        refine s_aald (t0 := 2) (b := a0) C hK X 1 rfl rfl (vp_in_nI (n := 0) (by decide) (by decide)) rfl dX1_choosePhases_82 ?_
        refine lv_iload_n hx hb dX1_choosePhases_83 rfl (lv_at hl 6 rfl) ?_
        refine s_cS0i C hK hA X (c_X1_phaseAfter l D ty a0 m0 w0 dm) [2] (pk_c rfl pk_n) rfl sl_X1_phaseAfter wm_X1_135 ⟨Nat.le_of_ble_eq_true rfl, Nat.le_of_ble_eq_true rfl⟩ ⟨Nat.zero_le _, Nat.zero_le _⟩ hl.1 rfl (Nat.le_of_ble_eq_true rfl) dX1_choosePhases_84 (fun H locs X => ?_)
        refine lv_goto (tgt := 91) hx hb dX1_choosePhases_87 (by decide) ?_
        exact J91_6 (f_X1_phaseAfter w0 dm) _ _ _ (by first | (rw [v_X1_choosePhases_5, if_neg c0_0]; done) | (rw [v_X1_choosePhases_5, if_neg c0_0]; rfl) | (simp only [v_X1_choosePhases_5, if_neg c0_0]; done)) (lv_sub hl [0, 1, 2, 3, 4, 5, 6] rfl) X
    refine lv_if_eq (tgt := 38) hx hb dX1_choosePhases_24 (by decide) (fun c0_0 => ?_) (fun c0_0 => ?_)
    · refine lv_iconst (v := 0) hx hb dX1_choosePhases_38 (by decide) ?_
      exact J39_4 0 _ _ _ (by first | (rw [v_X1_choosePhases_3, if_pos c0_0]; done) | (rw [v_X1_choosePhases_3, if_pos c0_0]; rfl) | (simp only [v_X1_choosePhases_3, if_pos c0_0]; done)) (lv_sub hl [0, 1, 2, 3] rfl) X
    · refine lv_aload_n hx hb dX1_choosePhases_27 rfl (lv_at hl 2 rfl) ?_
      refine s_cV0i C hK hA X (c_X1_isRearExcluded l D ty h aw al a0 a1 a2 a3 m0 m1 m2 m3 z w0 w1 w2 w3) [0, 1, 2, 3, 4, 5] (pk_c rfl (pk_c rfl (pk_c rfl (pk_c rfl (pk_c rfl (pk_c rfl pk_n)))))) rfl ml_X1_isRearExcluded wm_X1_132 (q0 := 0) rfl rfl rfl ⟨Nat.le_of_ble_eq_true rfl, Nat.le_of_ble_eq_true rfl⟩ ⟨Nat.zero_le _, Nat.zero_le _⟩ hl.1 rfl (Nat.le_of_ble_eq_true rfl) dX1_choosePhases_28 (fun H locs X => ?_)
      refine lv_if_ne (tgt := 38) hx hb dX1_choosePhases_31 (by decide) (fun c1_1 => ?_) (fun c1_1 => ?_)
      · refine lv_iconst (v := 0) hx hb dX1_choosePhases_38 (by decide) ?_
        exact J39_4 0 _ _ _ (by first | (rw [v_X1_choosePhases_3, if_neg c0_0, if_neg c1_1]; done) | (rw [v_X1_choosePhases_3, if_neg c0_0, if_neg c1_1]; rfl) | (simp only [v_X1_choosePhases_3, if_neg c0_0, if_neg c1_1]; done)) (lv_sub hl [0, 1, 2, 3] rfl) X
      · refine lv_iconst (v := 1) hx hb dX1_choosePhases_34 (by decide) ?_
        refine lv_goto (tgt := 39) hx hb dX1_choosePhases_35 (by decide) ?_
        exact J39_4 1 _ _ _ (by first | (rw [v_X1_choosePhases_3, if_neg c0_0, if_pos c1_1]; done) | (rw [v_X1_choosePhases_3, if_neg c0_0, if_pos c1_1]; rfl) | (simp only [v_X1_choosePhases_3, if_neg c0_0, if_pos c1_1]; done)) (lv_sub hl [0, 1, 2, 3] rfl) X
  refine lv_if_eq (tgt := 21) hx hb dX1_choosePhases_7 (by decide) (fun c0_0 => ?_) (fun c0_0 => ?_)
  · refine lv_iconst (v := 0) hx hb dX1_choosePhases_21 (by decide) ?_
    exact J22_2 0 _ _ _ (by first | (rw [v_X1_choosePhases_1, if_pos c0_0]; done) | (rw [v_X1_choosePhases_1, if_pos c0_0]; rfl) | (simp only [v_X1_choosePhases_1, if_pos c0_0]; done)) (lv_sub hl [0, 1, 2] rfl) X
  · refine lv_aload_n hx hb dX1_choosePhases_10 rfl (lv_at hl 1 rfl) ?_
    refine s_cV0i C hK hA X (c_X1_isFrontExcluded l D ty h aw al a0 a1 a2 a3 m0 m1 m2 m3 z w0 w1 w2 w3) [0, 1, 2, 3, 4, 5] (pk_c rfl (pk_c rfl (pk_c rfl (pk_c rfl (pk_c rfl (pk_c rfl pk_n)))))) rfl ml_X1_isFrontExcluded wm_X1_128 (q0 := 0) rfl rfl rfl ⟨Nat.le_of_ble_eq_true rfl, Nat.le_of_ble_eq_true rfl⟩ ⟨Nat.zero_le _, Nat.zero_le _⟩ hl.1 rfl (Nat.le_of_ble_eq_true rfl) dX1_choosePhases_11 (fun H locs X => ?_)
    refine lv_if_ne (tgt := 21) hx hb dX1_choosePhases_14 (by decide) (fun c1_1 => ?_) (fun c1_1 => ?_)
    · refine lv_iconst (v := 0) hx hb dX1_choosePhases_21 (by decide) ?_
      exact J22_2 0 _ _ _ (by first | (rw [v_X1_choosePhases_1, if_neg c0_0, if_neg c1_1]; done) | (rw [v_X1_choosePhases_1, if_neg c0_0, if_neg c1_1]; rfl) | (simp only [v_X1_choosePhases_1, if_neg c0_0, if_neg c1_1]; done)) (lv_sub hl [0, 1, 2] rfl) X
    · refine lv_iconst (v := 1) hx hb dX1_choosePhases_17 (by decide) ?_
      refine lv_goto (tgt := 22) hx hb dX1_choosePhases_18 (by decide) ?_
      exact J22_2 1 _ _ _ (by first | (rw [v_X1_choosePhases_1, if_neg c0_0, if_pos c1_1]; done) | (rw [v_X1_choosePhases_1, if_neg c0_0, if_pos c1_1]; rfl) | (simp only [v_X1_choosePhases_1, if_neg c0_0, if_pos c1_1]; done)) (lv_sub hl [0, 1, 2] rfl) X
def v_X1_enterPhases_1 (w0 : F1) : F1 := (if (w0 14) = (w0 2) then (upd w0 3 ((w0 3) + 1)) else (f_X5_enter_h w0 (w0 14)))
def v_X1_enterPhases_2 (fi : Nat) (lc : Nat) (w0 : F1) : Nat := (if (w0 14) = (w0 2) then fi else (f_X2_add_h_fi fi lc))
def v_X1_enterPhases_3 (lc : Nat) (w0 : F1) : Nat := (if (w0 14) = (w0 2) then lc else (f_X2_add_h_lc lc))
def v_X1_enterPhases_4 (fi : Nat) (lc : Nat) (w0 : F1) (lt : F1) (T : Int32) : F1 := (if (w0 14) = (w0 2) then lt else (f_X2_add_t fi lc lt T))
def v_X1_enterPhases_5 (fi : Nat) (lc : Nat) (w0 : F1) (lk : F1) : F1 := (if (w0 14) = (w0 2) then lk else (f_X2_add_k fi lc lk 0))
def v_X1_enterPhases_6 (fi : Nat) (lc : Nat) (w0 : F1) (lv : F1) : F1 := (if (w0 14) = (w0 2) then lv else (f_X2_add_v fi lc lv (0 + ((f_X5_enter_h w0 (w0 14)) 2))))
theorem okm_X1_enterPhases_7 (w0 : F1) (tk_a0 : kpOK w0) : kpOK (v_X1_enterPhases_1 w0) := by
  by_cases k0 : (w0 14) = (w0 2)
  · (try simp only [v_X1_enterPhases_1, if_pos k0]); exact (kp_upd tk_a0)
  · (try simp only [v_X1_enterPhases_1, if_neg k0]); exact (ok_X5_enter_h w0 (w0 14) tk_a0)
theorem okm_X1_enterPhases_8 (fi : Nat) (lc : Nat) (w0 : F1) (hg : lgOK fi lc) : lgOK (v_X1_enterPhases_2 fi lc w0) (v_X1_enterPhases_3 lc w0) := by
  by_cases k0 : (w0 14) = (w0 2)
  · (try simp only [v_X1_enterPhases_2, v_X1_enterPhases_3, if_pos k0]); exact hg
  · (try simp only [v_X1_enterPhases_2, v_X1_enterPhases_3, if_neg k0]); exact (ok_X2_add_h fi lc hg)
def v_X1_enterPhases_10 (fi : Nat) (lc : Nat) (w0 : F1) (lt : F1) (T : Int32) : F1 := (f_X2_add_t (v_X1_enterPhases_2 fi lc w0) (v_X1_enterPhases_3 lc w0) (v_X1_enterPhases_4 fi lc w0 lt T) T)
def v_X1_enterPhases_11 (fi : Nat) (lc : Nat) (w0 : F1) (lk : F1) : F1 := (f_X2_add_k (v_X1_enterPhases_2 fi lc w0) (v_X1_enterPhases_3 lc w0) (v_X1_enterPhases_5 fi lc w0 lk) 0)
def v_X1_enterPhases_12 (fi : Nat) (lc : Nat) (w0 : F1) (w1 : F1) (lv : F1) : F1 := (f_X2_add_v (v_X1_enterPhases_2 fi lc w0) (v_X1_enterPhases_3 lc w0) (v_X1_enterPhases_6 fi lc w0 lv) (10 + ((f_X5_enter_h w1 (w1 14)) 2)))
def v_X1_enterPhases_13 (w1 : F1) : F1 := (if (w1 14) = (w1 2) then (upd w1 3 ((w1 3) + 1)) else (f_X5_enter_h w1 (w1 14)))
def v_X1_enterPhases_14 (fi : Nat) (lc : Nat) (w0 : F1) (w1 : F1) : Nat := (if (w1 14) = (w1 2) then (v_X1_enterPhases_2 fi lc w0) else (f_X2_add_h_fi (v_X1_enterPhases_2 fi lc w0) (v_X1_enterPhases_3 lc w0)))
def v_X1_enterPhases_15 (lc : Nat) (w0 : F1) (w1 : F1) : Nat := (if (w1 14) = (w1 2) then (v_X1_enterPhases_3 lc w0) else (f_X2_add_h_lc (v_X1_enterPhases_3 lc w0)))
def v_X1_enterPhases_16 (fi : Nat) (lc : Nat) (w0 : F1) (w1 : F1) (lt : F1) (T : Int32) : F1 := (if (w1 14) = (w1 2) then (v_X1_enterPhases_4 fi lc w0 lt T) else (v_X1_enterPhases_10 fi lc w0 lt T))
def v_X1_enterPhases_17 (fi : Nat) (lc : Nat) (w0 : F1) (w1 : F1) (lk : F1) : F1 := (if (w1 14) = (w1 2) then (v_X1_enterPhases_5 fi lc w0 lk) else (v_X1_enterPhases_11 fi lc w0 lk))
def v_X1_enterPhases_18 (fi : Nat) (lc : Nat) (w0 : F1) (w1 : F1) (lv : F1) : F1 := (if (w1 14) = (w1 2) then (v_X1_enterPhases_6 fi lc w0 lv) else (v_X1_enterPhases_12 fi lc w0 w1 lv))
theorem okm_X1_enterPhases_19 (w1 : F1) (tk_a1 : kpOK w1) : kpOK (v_X1_enterPhases_13 w1) := by
  by_cases k0 : (w1 14) = (w1 2)
  · (try simp only [v_X1_enterPhases_13, if_pos k0]); exact (kp_upd tk_a1)
  · (try simp only [v_X1_enterPhases_13, if_neg k0]); exact (ok_X5_enter_h w1 (w1 14) tk_a1)
theorem okm_X1_enterPhases_20 (fi : Nat) (lc : Nat) (w0 : F1) (w1 : F1) (hg : lgOK fi lc) : lgOK (v_X1_enterPhases_14 fi lc w0 w1) (v_X1_enterPhases_15 lc w0 w1) := by
  by_cases k0 : (w1 14) = (w1 2)
  · (try simp only [v_X1_enterPhases_14, v_X1_enterPhases_15, if_pos k0]); exact (okm_X1_enterPhases_8 fi lc w0 hg)
  · (try simp only [v_X1_enterPhases_14, v_X1_enterPhases_15, if_neg k0]); exact (ok_X2_add_h (v_X1_enterPhases_2 fi lc w0) (v_X1_enterPhases_3 lc w0) (okm_X1_enterPhases_8 fi lc w0 hg))
def v_X1_enterPhases_22 (fi : Nat) (lc : Nat) (w0 : F1) (w1 : F1) (lt : F1) (T : Int32) : F1 := (f_X2_add_t (v_X1_enterPhases_14 fi lc w0 w1) (v_X1_enterPhases_15 lc w0 w1) (v_X1_enterPhases_16 fi lc w0 w1 lt T) T)
def v_X1_enterPhases_23 (fi : Nat) (lc : Nat) (w0 : F1) (w1 : F1) (lk : F1) : F1 := (f_X2_add_k (v_X1_enterPhases_14 fi lc w0 w1) (v_X1_enterPhases_15 lc w0 w1) (v_X1_enterPhases_17 fi lc w0 w1 lk) 0)
def v_X1_enterPhases_24 (fi : Nat) (lc : Nat) (w0 : F1) (w1 : F1) (w2 : F1) (lv : F1) : F1 := (f_X2_add_v (v_X1_enterPhases_14 fi lc w0 w1) (v_X1_enterPhases_15 lc w0 w1) (v_X1_enterPhases_18 fi lc w0 w1 lv) (20 + ((f_X5_enter_h w2 (w2 14)) 2)))
def v_X1_enterPhases_25 (w2 : F1) : F1 := (if (w2 14) = (w2 2) then (upd w2 3 ((w2 3) + 1)) else (f_X5_enter_h w2 (w2 14)))
def v_X1_enterPhases_26 (fi : Nat) (lc : Nat) (w0 : F1) (w1 : F1) (w2 : F1) : Nat := (if (w2 14) = (w2 2) then (v_X1_enterPhases_14 fi lc w0 w1) else (f_X2_add_h_fi (v_X1_enterPhases_14 fi lc w0 w1) (v_X1_enterPhases_15 lc w0 w1)))
def v_X1_enterPhases_27 (lc : Nat) (w0 : F1) (w1 : F1) (w2 : F1) : Nat := (if (w2 14) = (w2 2) then (v_X1_enterPhases_15 lc w0 w1) else (f_X2_add_h_lc (v_X1_enterPhases_15 lc w0 w1)))
def v_X1_enterPhases_28 (fi : Nat) (lc : Nat) (w0 : F1) (w1 : F1) (w2 : F1) (lt : F1) (T : Int32) : F1 := (if (w2 14) = (w2 2) then (v_X1_enterPhases_16 fi lc w0 w1 lt T) else (v_X1_enterPhases_22 fi lc w0 w1 lt T))
def v_X1_enterPhases_29 (fi : Nat) (lc : Nat) (w0 : F1) (w1 : F1) (w2 : F1) (lk : F1) : F1 := (if (w2 14) = (w2 2) then (v_X1_enterPhases_17 fi lc w0 w1 lk) else (v_X1_enterPhases_23 fi lc w0 w1 lk))
def v_X1_enterPhases_30 (fi : Nat) (lc : Nat) (w0 : F1) (w1 : F1) (w2 : F1) (lv : F1) : F1 := (if (w2 14) = (w2 2) then (v_X1_enterPhases_18 fi lc w0 w1 lv) else (v_X1_enterPhases_24 fi lc w0 w1 w2 lv))
theorem okm_X1_enterPhases_31 (w2 : F1) (tk_a2 : kpOK w2) : kpOK (v_X1_enterPhases_25 w2) := by
  by_cases k0 : (w2 14) = (w2 2)
  · (try simp only [v_X1_enterPhases_25, if_pos k0]); exact (kp_upd tk_a2)
  · (try simp only [v_X1_enterPhases_25, if_neg k0]); exact (ok_X5_enter_h w2 (w2 14) tk_a2)
theorem okm_X1_enterPhases_32 (fi : Nat) (lc : Nat) (w0 : F1) (w1 : F1) (w2 : F1) (hg : lgOK fi lc) : lgOK (v_X1_enterPhases_26 fi lc w0 w1 w2) (v_X1_enterPhases_27 lc w0 w1 w2) := by
  by_cases k0 : (w2 14) = (w2 2)
  · (try simp only [v_X1_enterPhases_26, v_X1_enterPhases_27, if_pos k0]); exact (okm_X1_enterPhases_20 fi lc w0 w1 hg)
  · (try simp only [v_X1_enterPhases_26, v_X1_enterPhases_27, if_neg k0]); exact (ok_X2_add_h (v_X1_enterPhases_14 fi lc w0 w1) (v_X1_enterPhases_15 lc w0 w1) (okm_X1_enterPhases_20 fi lc w0 w1 hg))
def v_X1_enterPhases_34 (fi : Nat) (lc : Nat) (w0 : F1) (w1 : F1) (w2 : F1) (lt : F1) (T : Int32) : F1 := (f_X2_add_t (v_X1_enterPhases_26 fi lc w0 w1 w2) (v_X1_enterPhases_27 lc w0 w1 w2) (v_X1_enterPhases_28 fi lc w0 w1 w2 lt T) T)
def v_X1_enterPhases_35 (fi : Nat) (lc : Nat) (w0 : F1) (w1 : F1) (w2 : F1) (lk : F1) : F1 := (f_X2_add_k (v_X1_enterPhases_26 fi lc w0 w1 w2) (v_X1_enterPhases_27 lc w0 w1 w2) (v_X1_enterPhases_29 fi lc w0 w1 w2 lk) 0)
def v_X1_enterPhases_36 (fi : Nat) (lc : Nat) (w0 : F1) (w1 : F1) (w2 : F1) (w3 : F1) (lv : F1) : F1 := (f_X2_add_v (v_X1_enterPhases_26 fi lc w0 w1 w2) (v_X1_enterPhases_27 lc w0 w1 w2) (v_X1_enterPhases_30 fi lc w0 w1 w2 lv) (30 + ((f_X5_enter_h w3 (w3 14)) 2)))
def v_X1_enterPhases_37 (w3 : F1) : F1 := (if (w3 14) = (w3 2) then (upd w3 3 ((w3 3) + 1)) else (f_X5_enter_h w3 (w3 14)))
def v_X1_enterPhases_38 (fi : Nat) (lc : Nat) (w0 : F1) (w1 : F1) (w2 : F1) (w3 : F1) : Nat := (if (w3 14) = (w3 2) then (v_X1_enterPhases_26 fi lc w0 w1 w2) else (f_X2_add_h_fi (v_X1_enterPhases_26 fi lc w0 w1 w2) (v_X1_enterPhases_27 lc w0 w1 w2)))
def v_X1_enterPhases_39 (lc : Nat) (w0 : F1) (w1 : F1) (w2 : F1) (w3 : F1) : Nat := (if (w3 14) = (w3 2) then (v_X1_enterPhases_27 lc w0 w1 w2) else (f_X2_add_h_lc (v_X1_enterPhases_27 lc w0 w1 w2)))
def v_X1_enterPhases_40 (fi : Nat) (lc : Nat) (w0 : F1) (w1 : F1) (w2 : F1) (w3 : F1) (lt : F1) (T : Int32) : F1 := (if (w3 14) = (w3 2) then (v_X1_enterPhases_28 fi lc w0 w1 w2 lt T) else (v_X1_enterPhases_34 fi lc w0 w1 w2 lt T))
def v_X1_enterPhases_41 (fi : Nat) (lc : Nat) (w0 : F1) (w1 : F1) (w2 : F1) (w3 : F1) (lk : F1) : F1 := (if (w3 14) = (w3 2) then (v_X1_enterPhases_29 fi lc w0 w1 w2 lk) else (v_X1_enterPhases_35 fi lc w0 w1 w2 lk))
def v_X1_enterPhases_42 (fi : Nat) (lc : Nat) (w0 : F1) (w1 : F1) (w2 : F1) (w3 : F1) (lv : F1) : F1 := (if (w3 14) = (w3 2) then (v_X1_enterPhases_30 fi lc w0 w1 w2 lv) else (v_X1_enterPhases_36 fi lc w0 w1 w2 w3 lv))
theorem okm_X1_enterPhases_43 (w3 : F1) (tk_a3 : kpOK w3) : kpOK (v_X1_enterPhases_37 w3) := by
  by_cases k0 : (w3 14) = (w3 2)
  · (try simp only [v_X1_enterPhases_37, if_pos k0]); exact (kp_upd tk_a3)
  · (try simp only [v_X1_enterPhases_37, if_neg k0]); exact (ok_X5_enter_h w3 (w3 14) tk_a3)
theorem okm_X1_enterPhases_44 (fi : Nat) (lc : Nat) (w0 : F1) (w1 : F1) (w2 : F1) (w3 : F1) (hg : lgOK fi lc) : lgOK (v_X1_enterPhases_38 fi lc w0 w1 w2 w3) (v_X1_enterPhases_39 lc w0 w1 w2 w3) := by
  by_cases k0 : (w3 14) = (w3 2)
  · (try simp only [v_X1_enterPhases_38, v_X1_enterPhases_39, if_pos k0]); exact (okm_X1_enterPhases_32 fi lc w0 w1 w2 hg)
  · (try simp only [v_X1_enterPhases_38, v_X1_enterPhases_39, if_neg k0]); exact (ok_X2_add_h (v_X1_enterPhases_26 fi lc w0 w1 w2) (v_X1_enterPhases_27 lc w0 w1 w2) (okm_X1_enterPhases_32 fi lc w0 w1 w2 hg))
def f_X1_enterPhases_al_fi (fi : Nat) (lc : Nat) (w0 : F1) (w1 : F1) (w2 : F1) (w3 : F1) : Nat := (v_X1_enterPhases_38 fi lc w0 w1 w2 w3)
def f_X1_enterPhases_al_lc (lc : Nat) (w0 : F1) (w1 : F1) (w2 : F1) (w3 : F1) : Nat := (v_X1_enterPhases_39 lc w0 w1 w2 w3)
def f_X1_enterPhases_t (fi : Nat) (lc : Nat) (w0 : F1) (w1 : F1) (w2 : F1) (w3 : F1) (lt : F1) (T : Int32) : F1 := (v_X1_enterPhases_40 fi lc w0 w1 w2 w3 lt T)
def f_X1_enterPhases_k (fi : Nat) (lc : Nat) (w0 : F1) (w1 : F1) (w2 : F1) (w3 : F1) (lk : F1) : F1 := (v_X1_enterPhases_41 fi lc w0 w1 w2 w3 lk)
def f_X1_enterPhases_v (fi : Nat) (lc : Nat) (w0 : F1) (w1 : F1) (w2 : F1) (w3 : F1) (lv : F1) : F1 := (v_X1_enterPhases_42 fi lc w0 w1 w2 w3 lv)
theorem ok_X1_enterPhases_a0 (w0 : F1) (tk_a0 : kpOK w0) : kpOK (v_X1_enterPhases_1 w0) := by
  (try simp only []); exact (okm_X1_enterPhases_7 w0 tk_a0)
theorem ok_X1_enterPhases_a1 (w1 : F1) (tk_a1 : kpOK w1) : kpOK (v_X1_enterPhases_13 w1) := by
  (try simp only []); exact (okm_X1_enterPhases_19 w1 tk_a1)
theorem ok_X1_enterPhases_a2 (w2 : F1) (tk_a2 : kpOK w2) : kpOK (v_X1_enterPhases_25 w2) := by
  (try simp only []); exact (okm_X1_enterPhases_31 w2 tk_a2)
theorem ok_X1_enterPhases_a3 (w3 : F1) (tk_a3 : kpOK w3) : kpOK (v_X1_enterPhases_37 w3) := by
  (try simp only []); exact (okm_X1_enterPhases_43 w3 tk_a3)
theorem ok_X1_enterPhases_al (fi : Nat) (lc : Nat) (w0 : F1) (w1 : F1) (w2 : F1) (w3 : F1) (hg : lgOK fi lc) : lgOK (f_X1_enterPhases_al_fi fi lc w0 w1 w2 w3) (f_X1_enterPhases_al_lc lc w0 w1 w2 w3) := by
  (try simp only [f_X1_enterPhases_al_fi, f_X1_enterPhases_al_lc]); exact (okm_X1_enterPhases_44 fi lc w0 w1 w2 w3 hg)
set_option maxHeartbeats 4000000 in
set_option maxRecDepth 100000 in
theorem c_X1_enterPhases (l : Launch) (D : va_G) (ty : Nat → ClassId) (h : Nat) (aw : Nat) (al : Nat) (a0 : Nat) (a1 : Nat) (a2 : Nat) (a3 : Nat) (m0 : Nat) (m1 : Nat) (m2 : Nat) (m3 : Nat) (t : Nat) (k : Nat) (v : Nat) (fi : Nat) (lc : Nat) (z : F1) (w0 : F1) (w1 : F1) (w2 : F1) (w3 : F1) (lt : F1) (lk : F1) (lv : F1) (T : Int32) (hg : lgOK fi lc) : MC l D ty yX1_enterPhases cX1_enterPhases 4 none 1 [.ref h, .int T] [(h, ctE z aw al), (aw, waE ty a0 a1 a2 a3), (a0, whE w0 m0), (a1, whE w1 m1), (a2, whE w2 m2), (a3, whE w3 m3), (al, loE fi lc t k v), (t, arE ty 40 lt), (k, arE ty 40 lk), (v, arE ty 40 lv)] none [(h, ctE z aw al), (aw, waE ty a0 a1 a2 a3), (a0, whE (v_X1_enterPhases_1 w0) m0), (a1, whE (v_X1_enterPhases_13 w1) m1), (a2, whE (v_X1_enterPhases_25 w2) m2), (a3, whE (v_X1_enterPhases_37 w3) m3), (al, loE (f_X1_enterPhases_al_fi fi lc w0 w1 w2 w3) (f_X1_enterPhases_al_lc lc w0 w1 w2 w3) t k v), (t, arE ty 40 (f_X1_enterPhases_t fi lc w0 w1 w2 w3 lt T)), (k, arE ty 40 (f_X1_enterPhases_k fi lc w0 w1 w2 w3 lk)), (v, arE ty 40 (f_X1_enterPhases_v fi lc w0 w1 w2 w3 lv))] := by
  refine mc_v (by decide +kernel) (Nat.le_of_ble_eq_true rfl) ?_
  intro p e s m args below meth c A Q ls C hK hA X hret hl
  have hx := C.1
  have hb := C.2.1
  have hl : lv_has ls 4 [(0, .ref h), (1, .int T)] := hl
  have X : Wd D A s.heap [(h, ctE z aw al), (aw, waE ty a0 a1 a2 a3), (a0, whE w0 m0), (a1, whE w1 m1), (a2, whE w2 m2), (a3, whE w3 m3), (al, loE fi lc t k v), (t, arE ty 40 lt), (k, arE ty 40 lk), (v, arE ty 40 lv)] s.heap [] := X
  refine lv_iconst (v := 0) hx hb dX1_enterPhases_0 (by decide) ?_
  refine lv_istore_n (lv' := [(2, .int 0), (0, .ref h), (1, .int T)]) hx hb dX1_enterPhases_1 rfl hl (by decide) rfl (fun ls hl => ?_)
  refine lv_iload_n hx hb dX1_enterPhases_2 rfl (lv_at hl 0 rfl) ?_
  refine lv_iconst (v := 4) hx hb dX1_enterPhases_3 (by decide) ?_
  refine lv_icmp_ge (tgt := 70) hx hb dX1_enterPhases_4 (by decide) (fun c0 => absurd c0 (by decide)) (fun _ => ?_)
  refine lv_aload_n hx hb dX1_enterPhases_7 rfl (lv_at hl 1 rfl) ?_
  refine get_ct_0 C hK X 0 rfl fl_X1_11 dX1_enterPhases_8 ?_
  refine lv_iload_n hx hb dX1_enterPhases_11 rfl (lv_at hl 0 rfl) ?_
  refine s_aald (t0 := 2) (b := a0) C hK X 1 rfl rfl (vp_in_nI (n := 0) (by decide) (by decide)) rfl dX1_enterPhases_12 ?_
  refine lv_astore_n (lv' := [(3, .ref a0), (2, .int 0), (0, .ref h), (1, .int T)]) hx hb dX1_enterPhases_13 rfl hl (by decide) rfl (fun ls hl => ?_)
  refine lv_aload_n hx hb dX1_enterPhases_14 rfl (lv_at hl 0 rfl) ?_
  refine get_wh_15 C hK X 2 rfl fl_X1_139 dX1_enterPhases_15 ?_
  refine lv_aload_n hx hb dX1_enterPhases_18 rfl (lv_at hl 0 rfl) ?_
  refine get_wh_2 C hK X 2 rfl fl_X1_156 dX1_enterPhases_19 ?_
  have J64_9 : ∀ (x1 : F1) (x2 : Nat) (x3 : Nat) (x4 : F1) (x5 : F1) (x6 : F1) (ls : Array Slot) (H : Heap) (locs : List Loc), x1 = (v_X1_enterPhases_1 w0) → x2 = (v_X1_enterPhases_2 fi lc w0) → x3 = (v_X1_enterPhases_3 lc w0) → x4 = (v_X1_enterPhases_4 fi lc w0 lt T) → x5 = (v_X1_enterPhases_5 fi lc w0 lk) → x6 = (v_X1_enterPhases_6 fi lc w0 lv) → lv_has ls 4 [(3, .ref a0), (2, .int 0), (0, .ref h), (1, .int T)] → Wd D A s.heap [(h, ctE z aw al), (aw, waE ty a0 a1 a2 a3), (a0, whE x1 m0), (a1, whE w1 m1), (a2, whE w2 m2), (a3, whE w3 m3), (al, loE x2 x3 t k v), (t, arE ty 40 x4), (k, arE ty 40 x5), (v, arE ty 40 x6)] H locs → W p l e (rmD 1) s m args below meth c H locs 0 0 Q (F0 m 64 ls []) := by
    intro x1 x2 x3 x4 x5 x6 ls H locs ex1 ex2 ex3 ex4 ex5 ex6 hl X
    subst ex1; subst ex2; subst ex3; subst ex4; subst ex5; subst ex6
    refine lv_iinc (v := 1) (lv' := [(2, .int 1), (3, .ref a0), (0, .ref h), (1, .int T)]) hx hb dX1_enterPhases_64 hl (k := 1) rfl (by decide) (by decide) rfl (fun ls hl => ?_)
    refine lv_goto (tgt := 2) hx hb dX1_enterPhases_67 (by decide) ?_
    refine lv_iload_n hx hb dX1_enterPhases_2 rfl (lv_at hl 0 rfl) ?_
    refine lv_iconst (v := 4) hx hb dX1_enterPhases_3 (by decide) ?_
    refine lv_icmp_ge (tgt := 70) hx hb dX1_enterPhases_4 (by decide) (fun c0 => absurd c0 (by decide)) (fun _ => ?_)
    refine lv_aload_n hx hb dX1_enterPhases_7 rfl (lv_at hl 2 rfl) ?_
    refine get_ct_0 C hK X 0 rfl fl_X1_11 dX1_enterPhases_8 ?_
    refine lv_iload_n hx hb dX1_enterPhases_11 rfl (lv_at hl 0 rfl) ?_
    refine s_aald (t0 := 2) (b := a1) C hK X 1 rfl rfl (vp_in_nI (n := 1) (by decide) (by decide)) rfl dX1_enterPhases_12 ?_
    refine lv_astore_n (lv' := [(3, .ref a1), (2, .int 1), (0, .ref h), (1, .int T)]) hx hb dX1_enterPhases_13 rfl hl (by decide) rfl (fun ls hl => ?_)
    refine lv_aload_n hx hb dX1_enterPhases_14 rfl (lv_at hl 0 rfl) ?_
    refine get_wh_15 C hK X 3 rfl fl_X1_139 dX1_enterPhases_15 ?_
    refine lv_aload_n hx hb dX1_enterPhases_18 rfl (lv_at hl 0 rfl) ?_
    refine get_wh_2 C hK X 3 rfl fl_X1_156 dX1_enterPhases_19 ?_
    have J64_21 : ∀ (x13 : F1) (x14 : Nat) (x15 : Nat) (x16 : F1) (x17 : F1) (x18 : F1) (ls : Array Slot) (H : Heap) (locs : List Loc), x13 = (v_X1_enterPhases_13 w1) → x14 = (v_X1_enterPhases_14 fi lc w0 w1) → x15 = (v_X1_enterPhases_15 lc w0 w1) → x16 = (v_X1_enterPhases_16 fi lc w0 w1 lt T) → x17 = (v_X1_enterPhases_17 fi lc w0 w1 lk) → x18 = (v_X1_enterPhases_18 fi lc w0 w1 lv) → lv_has ls 4 [(3, .ref a1), (2, .int 1), (0, .ref h), (1, .int T)] → Wd D A s.heap [(h, ctE z aw al), (aw, waE ty a0 a1 a2 a3), (a0, whE (v_X1_enterPhases_1 w0) m0), (a1, whE x13 m1), (a2, whE w2 m2), (a3, whE w3 m3), (al, loE x14 x15 t k v), (t, arE ty 40 x16), (k, arE ty 40 x17), (v, arE ty 40 x18)] H locs → W p l e (rmD 1) s m args below meth c H locs 0 0 Q (F0 m 64 ls []) := by
      intro x13 x14 x15 x16 x17 x18 ls H locs ex13 ex14 ex15 ex16 ex17 ex18 hl X
      subst ex13; subst ex14; subst ex15; subst ex16; subst ex17; subst ex18
      refine lv_iinc (v := 2) (lv' := [(2, .int 2), (3, .ref a1), (0, .ref h), (1, .int T)]) hx hb dX1_enterPhases_64 hl (k := 1) rfl (by decide) (by decide) rfl (fun ls hl => ?_)
      refine lv_goto (tgt := 2) hx hb dX1_enterPhases_67 (by decide) ?_
      refine lv_iload_n hx hb dX1_enterPhases_2 rfl (lv_at hl 0 rfl) ?_
      refine lv_iconst (v := 4) hx hb dX1_enterPhases_3 (by decide) ?_
      refine lv_icmp_ge (tgt := 70) hx hb dX1_enterPhases_4 (by decide) (fun c0 => absurd c0 (by decide)) (fun _ => ?_)
      refine lv_aload_n hx hb dX1_enterPhases_7 rfl (lv_at hl 2 rfl) ?_
      refine get_ct_0 C hK X 0 rfl fl_X1_11 dX1_enterPhases_8 ?_
      refine lv_iload_n hx hb dX1_enterPhases_11 rfl (lv_at hl 0 rfl) ?_
      refine s_aald (t0 := 2) (b := a2) C hK X 1 rfl rfl (vp_in_nI (n := 2) (by decide) (by decide)) rfl dX1_enterPhases_12 ?_
      refine lv_astore_n (lv' := [(3, .ref a2), (2, .int 2), (0, .ref h), (1, .int T)]) hx hb dX1_enterPhases_13 rfl hl (by decide) rfl (fun ls hl => ?_)
      refine lv_aload_n hx hb dX1_enterPhases_14 rfl (lv_at hl 0 rfl) ?_
      refine get_wh_15 C hK X 4 rfl fl_X1_139 dX1_enterPhases_15 ?_
      refine lv_aload_n hx hb dX1_enterPhases_18 rfl (lv_at hl 0 rfl) ?_
      refine get_wh_2 C hK X 4 rfl fl_X1_156 dX1_enterPhases_19 ?_
      have J64_33 : ∀ (x25 : F1) (x26 : Nat) (x27 : Nat) (x28 : F1) (x29 : F1) (x30 : F1) (ls : Array Slot) (H : Heap) (locs : List Loc), x25 = (v_X1_enterPhases_25 w2) → x26 = (v_X1_enterPhases_26 fi lc w0 w1 w2) → x27 = (v_X1_enterPhases_27 lc w0 w1 w2) → x28 = (v_X1_enterPhases_28 fi lc w0 w1 w2 lt T) → x29 = (v_X1_enterPhases_29 fi lc w0 w1 w2 lk) → x30 = (v_X1_enterPhases_30 fi lc w0 w1 w2 lv) → lv_has ls 4 [(3, .ref a2), (2, .int 2), (0, .ref h), (1, .int T)] → Wd D A s.heap [(h, ctE z aw al), (aw, waE ty a0 a1 a2 a3), (a0, whE (v_X1_enterPhases_1 w0) m0), (a1, whE (v_X1_enterPhases_13 w1) m1), (a2, whE x25 m2), (a3, whE w3 m3), (al, loE x26 x27 t k v), (t, arE ty 40 x28), (k, arE ty 40 x29), (v, arE ty 40 x30)] H locs → W p l e (rmD 1) s m args below meth c H locs 0 0 Q (F0 m 64 ls []) := by
        intro x25 x26 x27 x28 x29 x30 ls H locs ex25 ex26 ex27 ex28 ex29 ex30 hl X
        subst ex25; subst ex26; subst ex27; subst ex28; subst ex29; subst ex30
        refine lv_iinc (v := 3) (lv' := [(2, .int 3), (3, .ref a2), (0, .ref h), (1, .int T)]) hx hb dX1_enterPhases_64 hl (k := 1) rfl (by decide) (by decide) rfl (fun ls hl => ?_)
        refine lv_goto (tgt := 2) hx hb dX1_enterPhases_67 (by decide) ?_
        refine lv_iload_n hx hb dX1_enterPhases_2 rfl (lv_at hl 0 rfl) ?_
        refine lv_iconst (v := 4) hx hb dX1_enterPhases_3 (by decide) ?_
        refine lv_icmp_ge (tgt := 70) hx hb dX1_enterPhases_4 (by decide) (fun c0 => absurd c0 (by decide)) (fun _ => ?_)
        refine lv_aload_n hx hb dX1_enterPhases_7 rfl (lv_at hl 2 rfl) ?_
        refine get_ct_0 C hK X 0 rfl fl_X1_11 dX1_enterPhases_8 ?_
        refine lv_iload_n hx hb dX1_enterPhases_11 rfl (lv_at hl 0 rfl) ?_
        refine s_aald (t0 := 2) (b := a3) C hK X 1 rfl rfl (vp_in_nI (n := 3) (by decide) (by decide)) rfl dX1_enterPhases_12 ?_
        refine lv_astore_n (lv' := [(3, .ref a3), (2, .int 3), (0, .ref h), (1, .int T)]) hx hb dX1_enterPhases_13 rfl hl (by decide) rfl (fun ls hl => ?_)
        refine lv_aload_n hx hb dX1_enterPhases_14 rfl (lv_at hl 0 rfl) ?_
        refine get_wh_15 C hK X 5 rfl fl_X1_139 dX1_enterPhases_15 ?_
        refine lv_aload_n hx hb dX1_enterPhases_18 rfl (lv_at hl 0 rfl) ?_
        refine get_wh_2 C hK X 5 rfl fl_X1_156 dX1_enterPhases_19 ?_
        have J64_45 : ∀ (x37 : F1) (x38 : Nat) (x39 : Nat) (x40 : F1) (x41 : F1) (x42 : F1) (ls : Array Slot) (H : Heap) (locs : List Loc), x37 = (v_X1_enterPhases_37 w3) → x38 = (v_X1_enterPhases_38 fi lc w0 w1 w2 w3) → x39 = (v_X1_enterPhases_39 lc w0 w1 w2 w3) → x40 = (v_X1_enterPhases_40 fi lc w0 w1 w2 w3 lt T) → x41 = (v_X1_enterPhases_41 fi lc w0 w1 w2 w3 lk) → x42 = (v_X1_enterPhases_42 fi lc w0 w1 w2 w3 lv) → lv_has ls 4 [(3, .ref a3), (2, .int 3), (0, .ref h), (1, .int T)] → Wd D A s.heap [(h, ctE z aw al), (aw, waE ty a0 a1 a2 a3), (a0, whE (v_X1_enterPhases_1 w0) m0), (a1, whE (v_X1_enterPhases_13 w1) m1), (a2, whE (v_X1_enterPhases_25 w2) m2), (a3, whE x37 m3), (al, loE x38 x39 t k v), (t, arE ty 40 x40), (k, arE ty 40 x41), (v, arE ty 40 x42)] H locs → W p l e (rmD 1) s m args below meth c H locs 0 0 Q (F0 m 64 ls []) := by
          intro x37 x38 x39 x40 x41 x42 ls H locs ex37 ex38 ex39 ex40 ex41 ex42 hl X
          subst ex37; subst ex38; subst ex39; subst ex40; subst ex41; subst ex42
          refine lv_iinc (v := 4) (lv' := [(2, .int 4), (3, .ref a3), (0, .ref h), (1, .int T)]) hx hb dX1_enterPhases_64 hl (k := 1) rfl (by decide) (by decide) rfl (fun ls hl => ?_)
          refine lv_goto (tgt := 2) hx hb dX1_enterPhases_67 (by decide) ?_
          refine lv_iload_n hx hb dX1_enterPhases_2 rfl (lv_at hl 0 rfl) ?_
          refine lv_iconst (v := 4) hx hb dX1_enterPhases_3 (by decide) ?_
          refine lv_icmp_ge (tgt := 70) hx hb dX1_enterPhases_4 (by decide) (fun _ => ?_) (fun c0 => absurd (by decide) c0)
          have e_6_0 : (f_X1_enterPhases_al_fi fi lc w0 w1 w2 w3) = (v_X1_enterPhases_38 fi lc w0 w1 w2 w3) := by first | (rw [f_X1_enterPhases_al_fi]; done) | (rw [f_X1_enterPhases_al_fi]; rfl) | (simp only [f_X1_enterPhases_al_fi]; done)
          have e_6_1 : (f_X1_enterPhases_al_lc lc w0 w1 w2 w3) = (v_X1_enterPhases_39 lc w0 w1 w2 w3) := by first | (rw [f_X1_enterPhases_al_lc]; done) | (rw [f_X1_enterPhases_al_lc]; rfl) | (simp only [f_X1_enterPhases_al_lc]; done)
          have e_7_1 : (f_X1_enterPhases_t fi lc w0 w1 w2 w3 lt T) = (v_X1_enterPhases_40 fi lc w0 w1 w2 w3 lt T) := by first | (rw [f_X1_enterPhases_t]; done) | (rw [f_X1_enterPhases_t]; rfl) | (simp only [f_X1_enterPhases_t]; done)
          have e_8_1 : (f_X1_enterPhases_k fi lc w0 w1 w2 w3 lk) = (v_X1_enterPhases_41 fi lc w0 w1 w2 w3 lk) := by first | (rw [f_X1_enterPhases_k]; done) | (rw [f_X1_enterPhases_k]; rfl) | (simp only [f_X1_enterPhases_k]; done)
          have e_9_1 : (f_X1_enterPhases_v fi lc w0 w1 w2 w3 lv) = (v_X1_enterPhases_42 fi lc w0 w1 w2 w3 lv) := by first | (rw [f_X1_enterPhases_v]; done) | (rw [f_X1_enterPhases_v]; rfl) | (simp only [f_X1_enterPhases_v]; done)
          exact hret _ _ _ _ _ dX1_enterPhases_70 X (by rw [e_6_0, e_6_1, e_7_1, e_8_1, e_9_1])
        refine lv_icmp_eq (tgt := 54) hx hb dX1_enterPhases_22 (by decide) (fun c0_0 => ?_) (fun c0_0 => ?_)
        · refine lv_aload_n hx hb dX1_enterPhases_54 rfl (lv_at hl 0 rfl) ?_
          refine lv_dup hx hb dX1_enterPhases_55 rfl ?_
          refine get_wh_3 C hK X 5 rfl fl_X1_165 dX1_enterPhases_56 ?_
          refine lv_iconst (v := 1) hx hb dX1_enterPhases_59 (by decide) ?_
          refine lv_iadd hx hb dX1_enterPhases_60 ?_
          refine put_wh_3 C hK X 5 rfl pl_X1_165 dX1_enterPhases_61 (fun H locs X => ?_)
          have X : Wd D A s.heap [(h, ctE z aw al), (aw, waE ty a0 a1 a2 a3), (a0, whE (v_X1_enterPhases_1 w0) m0), (a1, whE (v_X1_enterPhases_13 w1) m1), (a2, whE (v_X1_enterPhases_25 w2) m2), (a3, whE (upd w3 3 ((w3 3) + 1)) m3), (al, loE (v_X1_enterPhases_26 fi lc w0 w1 w2) (v_X1_enterPhases_27 lc w0 w1 w2) t k v), (t, arE ty 40 (v_X1_enterPhases_28 fi lc w0 w1 w2 lt T)), (k, arE ty 40 (v_X1_enterPhases_29 fi lc w0 w1 w2 lk)), (v, arE ty 40 (v_X1_enterPhases_30 fi lc w0 w1 w2 lv))] H locs := X
          exact J64_45 (upd w3 3 ((w3 3) + 1)) (v_X1_enterPhases_26 fi lc w0 w1 w2) (v_X1_enterPhases_27 lc w0 w1 w2) (v_X1_enterPhases_28 fi lc w0 w1 w2 lt T) (v_X1_enterPhases_29 fi lc w0 w1 w2 lk) (v_X1_enterPhases_30 fi lc w0 w1 w2 lv) _ _ _ (by first | (rw [v_X1_enterPhases_37, if_pos c0_0]; done) | (rw [v_X1_enterPhases_37, if_pos c0_0]; rfl) | (simp only [v_X1_enterPhases_37, if_pos c0_0]; done)) (by first | (rw [v_X1_enterPhases_38, if_pos c0_0]; done) | (rw [v_X1_enterPhases_38, if_pos c0_0]; rfl) | (simp only [v_X1_enterPhases_38, if_pos c0_0]; done)) (by first | (rw [v_X1_enterPhases_39, if_pos c0_0]; done) | (rw [v_X1_enterPhases_39, if_pos c0_0]; rfl) | (simp only [v_X1_enterPhases_39, if_pos c0_0]; done)) (by first | (rw [v_X1_enterPhases_40, if_pos c0_0]; done) | (rw [v_X1_enterPhases_40, if_pos c0_0]; rfl) | (simp only [v_X1_enterPhases_40, if_pos c0_0]; done)) (by first | (rw [v_X1_enterPhases_41, if_pos c0_0]; done) | (rw [v_X1_enterPhases_41, if_pos c0_0]; rfl) | (simp only [v_X1_enterPhases_41, if_pos c0_0]; done)) (by first | (rw [v_X1_enterPhases_42, if_pos c0_0]; done) | (rw [v_X1_enterPhases_42, if_pos c0_0]; rfl) | (simp only [v_X1_enterPhases_42, if_pos c0_0]; done)) (lv_sub hl [0, 1, 2, 3] rfl) X
        · refine lv_aload_n hx hb dX1_enterPhases_25 rfl (lv_at hl 0 rfl) ?_
          refine lv_aload_n hx hb dX1_enterPhases_26 rfl (lv_at hl 0 rfl) ?_
          refine get_wh_15 C hK X 5 rfl fl_X1_139 dX1_enterPhases_27 ?_
          refine s_cVv (ws' := [(h, ctE z aw al), (aw, waE ty a0 a1 a2 a3), (a0, whE (v_X1_enterPhases_1 w0) m0), (a1, whE (v_X1_enterPhases_13 w1) m1), (a2, whE (v_X1_enterPhases_25 w2) m2), (a3, whE (f_X5_enter_h w3 (w3 14)) m3), (al, loE (v_X1_enterPhases_26 fi lc w0 w1 w2) (v_X1_enterPhases_27 lc w0 w1 w2) t k v), (t, arE ty 40 (v_X1_enterPhases_28 fi lc w0 w1 w2 lt T)), (k, arE ty 40 (v_X1_enterPhases_29 fi lc w0 w1 w2 lk)), (v, arE ty 40 (v_X1_enterPhases_30 fi lc w0 w1 w2 lv))]) C hK hA X (c_X5_enter l D ty a3 m3 w3 (w3 14)) [5] (pk_c rfl pk_n) rfl (pk_c rfl pk_n) (em_f (em_f (em_f (em_f (em_f (em_t (em_f (em_f (em_f (em_f em_n)))))))))) rfl ml_X5_enter wm_X1_162 (q0 := 0) rfl rfl rfl ⟨Nat.le_of_ble_eq_true rfl, Nat.le_of_ble_eq_true rfl⟩ ⟨Nat.zero_le _, Nat.zero_le _⟩ hl.1 rfl (Nat.le_of_ble_eq_true rfl) dX1_enterPhases_30 (fun H locs X => ?_)
          refine lv_aload_n hx hb dX1_enterPhases_33 rfl (lv_at hl 2 rfl) ?_
          refine get_ct_1 C hK X 0 rfl fl_X1_21 dX1_enterPhases_34 ?_
          refine lv_iload_n hx hb dX1_enterPhases_37 rfl (lv_at hl 3 rfl) ?_
          refine lv_iconst (v := 0) hx hb dX1_enterPhases_38 (by decide) ?_
          refine lv_bipush (v := 10) hx hb dX1_enterPhases_39 (by decide) ?_
          refine lv_iload_n hx hb dX1_enterPhases_41 rfl (lv_at hl 1 rfl) ?_
          refine lv_imul hx hb dX1_enterPhases_42 ?_
          refine s_eqi (y := 30) (by decide) ?_
          refine lv_aload_n hx hb dX1_enterPhases_43 rfl (lv_at hl 0 rfl) ?_
          refine get_wh_2 C hK X 5 rfl fl_X1_156 dX1_enterPhases_44 ?_
          refine lv_iadd hx hb dX1_enterPhases_47 ?_
          refine s_cVv (ws' := [(h, ctE z aw al), (aw, waE ty a0 a1 a2 a3), (a0, whE (v_X1_enterPhases_1 w0) m0), (a1, whE (v_X1_enterPhases_13 w1) m1), (a2, whE (v_X1_enterPhases_25 w2) m2), (a3, whE (f_X5_enter_h w3 (w3 14)) m3), (al, loE (f_X2_add_h_fi (v_X1_enterPhases_26 fi lc w0 w1 w2) (v_X1_enterPhases_27 lc w0 w1 w2)) (f_X2_add_h_lc (v_X1_enterPhases_27 lc w0 w1 w2)) t k v), (t, arE ty 40 (v_X1_enterPhases_34 fi lc w0 w1 w2 lt T)), (k, arE ty 40 (v_X1_enterPhases_35 fi lc w0 w1 w2 lk)), (v, arE ty 40 (v_X1_enterPhases_36 fi lc w0 w1 w2 w3 lv))]) C hK hA X (c_X2_add l D ty al t k v (v_X1_enterPhases_26 fi lc w0 w1 w2) (v_X1_enterPhases_27 lc w0 w1 w2) (v_X1_enterPhases_28 fi lc w0 w1 w2 lt T) (v_X1_enterPhases_29 fi lc w0 w1 w2 lk) (v_X1_enterPhases_30 fi lc w0 w1 w2 lv) T 0 (30 + ((f_X5_enter_h w3 (w3 14)) 2)) (okm_X1_enterPhases_32 fi lc w0 w1 w2 hg)) [6, 7, 8, 9] (pk_c rfl (pk_c rfl (pk_c rfl (pk_c rfl pk_n)))) rfl (pk_c rfl (pk_c rfl (pk_c rfl (pk_c rfl pk_n)))) (em_f (em_f (em_f (em_f (em_f (em_f (em_t (em_t (em_t (em_t em_n)))))))))) rfl ml_X2_add wm_X1_120 (q0 := 0) rfl rfl rfl ⟨Nat.le_of_ble_eq_true rfl, Nat.le_of_ble_eq_true rfl⟩ ⟨Nat.zero_le _, Nat.zero_le _⟩ hl.1 rfl (Nat.le_of_ble_eq_true rfl) dX1_enterPhases_48 (fun H locs X => ?_)
          refine lv_goto (tgt := 64) hx hb dX1_enterPhases_51 (by decide) ?_
          exact J64_45 (f_X5_enter_h w3 (w3 14)) (f_X2_add_h_fi (v_X1_enterPhases_26 fi lc w0 w1 w2) (v_X1_enterPhases_27 lc w0 w1 w2)) (f_X2_add_h_lc (v_X1_enterPhases_27 lc w0 w1 w2)) (v_X1_enterPhases_34 fi lc w0 w1 w2 lt T) (v_X1_enterPhases_35 fi lc w0 w1 w2 lk) (v_X1_enterPhases_36 fi lc w0 w1 w2 w3 lv) _ _ _ (by first | (rw [v_X1_enterPhases_37, if_neg c0_0]; done) | (rw [v_X1_enterPhases_37, if_neg c0_0]; rfl) | (simp only [v_X1_enterPhases_37, if_neg c0_0]; done)) (by first | (rw [v_X1_enterPhases_38, if_neg c0_0]; done) | (rw [v_X1_enterPhases_38, if_neg c0_0]; rfl) | (simp only [v_X1_enterPhases_38, if_neg c0_0]; done)) (by first | (rw [v_X1_enterPhases_39, if_neg c0_0]; done) | (rw [v_X1_enterPhases_39, if_neg c0_0]; rfl) | (simp only [v_X1_enterPhases_39, if_neg c0_0]; done)) (by first | (rw [v_X1_enterPhases_40, if_neg c0_0]; done) | (rw [v_X1_enterPhases_40, if_neg c0_0]; rfl) | (simp only [v_X1_enterPhases_40, if_neg c0_0]; done)) (by first | (rw [v_X1_enterPhases_41, if_neg c0_0]; done) | (rw [v_X1_enterPhases_41, if_neg c0_0]; rfl) | (simp only [v_X1_enterPhases_41, if_neg c0_0]; done)) (by first | (rw [v_X1_enterPhases_42, if_neg c0_0]; done) | (rw [v_X1_enterPhases_42, if_neg c0_0]; rfl) | (simp only [v_X1_enterPhases_42, if_neg c0_0]; done)) (lv_sub hl [0, 1, 2, 3] rfl) X
      refine lv_icmp_eq (tgt := 54) hx hb dX1_enterPhases_22 (by decide) (fun c0_0 => ?_) (fun c0_0 => ?_)
      · refine lv_aload_n hx hb dX1_enterPhases_54 rfl (lv_at hl 0 rfl) ?_
        refine lv_dup hx hb dX1_enterPhases_55 rfl ?_
        refine get_wh_3 C hK X 4 rfl fl_X1_165 dX1_enterPhases_56 ?_
        refine lv_iconst (v := 1) hx hb dX1_enterPhases_59 (by decide) ?_
        refine lv_iadd hx hb dX1_enterPhases_60 ?_
        refine put_wh_3 C hK X 4 rfl pl_X1_165 dX1_enterPhases_61 (fun H locs X => ?_)
        have X : Wd D A s.heap [(h, ctE z aw al), (aw, waE ty a0 a1 a2 a3), (a0, whE (v_X1_enterPhases_1 w0) m0), (a1, whE (v_X1_enterPhases_13 w1) m1), (a2, whE (upd w2 3 ((w2 3) + 1)) m2), (a3, whE w3 m3), (al, loE (v_X1_enterPhases_14 fi lc w0 w1) (v_X1_enterPhases_15 lc w0 w1) t k v), (t, arE ty 40 (v_X1_enterPhases_16 fi lc w0 w1 lt T)), (k, arE ty 40 (v_X1_enterPhases_17 fi lc w0 w1 lk)), (v, arE ty 40 (v_X1_enterPhases_18 fi lc w0 w1 lv))] H locs := X
        exact J64_33 (upd w2 3 ((w2 3) + 1)) (v_X1_enterPhases_14 fi lc w0 w1) (v_X1_enterPhases_15 lc w0 w1) (v_X1_enterPhases_16 fi lc w0 w1 lt T) (v_X1_enterPhases_17 fi lc w0 w1 lk) (v_X1_enterPhases_18 fi lc w0 w1 lv) _ _ _ (by first | (rw [v_X1_enterPhases_25, if_pos c0_0]; done) | (rw [v_X1_enterPhases_25, if_pos c0_0]; rfl) | (simp only [v_X1_enterPhases_25, if_pos c0_0]; done)) (by first | (rw [v_X1_enterPhases_26, if_pos c0_0]; done) | (rw [v_X1_enterPhases_26, if_pos c0_0]; rfl) | (simp only [v_X1_enterPhases_26, if_pos c0_0]; done)) (by first | (rw [v_X1_enterPhases_27, if_pos c0_0]; done) | (rw [v_X1_enterPhases_27, if_pos c0_0]; rfl) | (simp only [v_X1_enterPhases_27, if_pos c0_0]; done)) (by first | (rw [v_X1_enterPhases_28, if_pos c0_0]; done) | (rw [v_X1_enterPhases_28, if_pos c0_0]; rfl) | (simp only [v_X1_enterPhases_28, if_pos c0_0]; done)) (by first | (rw [v_X1_enterPhases_29, if_pos c0_0]; done) | (rw [v_X1_enterPhases_29, if_pos c0_0]; rfl) | (simp only [v_X1_enterPhases_29, if_pos c0_0]; done)) (by first | (rw [v_X1_enterPhases_30, if_pos c0_0]; done) | (rw [v_X1_enterPhases_30, if_pos c0_0]; rfl) | (simp only [v_X1_enterPhases_30, if_pos c0_0]; done)) (lv_sub hl [0, 1, 2, 3] rfl) X
      · refine lv_aload_n hx hb dX1_enterPhases_25 rfl (lv_at hl 0 rfl) ?_
        refine lv_aload_n hx hb dX1_enterPhases_26 rfl (lv_at hl 0 rfl) ?_
        refine get_wh_15 C hK X 4 rfl fl_X1_139 dX1_enterPhases_27 ?_
        refine s_cVv (ws' := [(h, ctE z aw al), (aw, waE ty a0 a1 a2 a3), (a0, whE (v_X1_enterPhases_1 w0) m0), (a1, whE (v_X1_enterPhases_13 w1) m1), (a2, whE (f_X5_enter_h w2 (w2 14)) m2), (a3, whE w3 m3), (al, loE (v_X1_enterPhases_14 fi lc w0 w1) (v_X1_enterPhases_15 lc w0 w1) t k v), (t, arE ty 40 (v_X1_enterPhases_16 fi lc w0 w1 lt T)), (k, arE ty 40 (v_X1_enterPhases_17 fi lc w0 w1 lk)), (v, arE ty 40 (v_X1_enterPhases_18 fi lc w0 w1 lv))]) C hK hA X (c_X5_enter l D ty a2 m2 w2 (w2 14)) [4] (pk_c rfl pk_n) rfl (pk_c rfl pk_n) (em_f (em_f (em_f (em_f (em_t (em_f (em_f (em_f (em_f (em_f em_n)))))))))) rfl ml_X5_enter wm_X1_162 (q0 := 0) rfl rfl rfl ⟨Nat.le_of_ble_eq_true rfl, Nat.le_of_ble_eq_true rfl⟩ ⟨Nat.zero_le _, Nat.zero_le _⟩ hl.1 rfl (Nat.le_of_ble_eq_true rfl) dX1_enterPhases_30 (fun H locs X => ?_)
        refine lv_aload_n hx hb dX1_enterPhases_33 rfl (lv_at hl 2 rfl) ?_
        refine get_ct_1 C hK X 0 rfl fl_X1_21 dX1_enterPhases_34 ?_
        refine lv_iload_n hx hb dX1_enterPhases_37 rfl (lv_at hl 3 rfl) ?_
        refine lv_iconst (v := 0) hx hb dX1_enterPhases_38 (by decide) ?_
        refine lv_bipush (v := 10) hx hb dX1_enterPhases_39 (by decide) ?_
        refine lv_iload_n hx hb dX1_enterPhases_41 rfl (lv_at hl 1 rfl) ?_
        refine lv_imul hx hb dX1_enterPhases_42 ?_
        refine s_eqi (y := 20) (by decide) ?_
        refine lv_aload_n hx hb dX1_enterPhases_43 rfl (lv_at hl 0 rfl) ?_
        refine get_wh_2 C hK X 4 rfl fl_X1_156 dX1_enterPhases_44 ?_
        refine lv_iadd hx hb dX1_enterPhases_47 ?_
        refine s_cVv (ws' := [(h, ctE z aw al), (aw, waE ty a0 a1 a2 a3), (a0, whE (v_X1_enterPhases_1 w0) m0), (a1, whE (v_X1_enterPhases_13 w1) m1), (a2, whE (f_X5_enter_h w2 (w2 14)) m2), (a3, whE w3 m3), (al, loE (f_X2_add_h_fi (v_X1_enterPhases_14 fi lc w0 w1) (v_X1_enterPhases_15 lc w0 w1)) (f_X2_add_h_lc (v_X1_enterPhases_15 lc w0 w1)) t k v), (t, arE ty 40 (v_X1_enterPhases_22 fi lc w0 w1 lt T)), (k, arE ty 40 (v_X1_enterPhases_23 fi lc w0 w1 lk)), (v, arE ty 40 (v_X1_enterPhases_24 fi lc w0 w1 w2 lv))]) C hK hA X (c_X2_add l D ty al t k v (v_X1_enterPhases_14 fi lc w0 w1) (v_X1_enterPhases_15 lc w0 w1) (v_X1_enterPhases_16 fi lc w0 w1 lt T) (v_X1_enterPhases_17 fi lc w0 w1 lk) (v_X1_enterPhases_18 fi lc w0 w1 lv) T 0 (20 + ((f_X5_enter_h w2 (w2 14)) 2)) (okm_X1_enterPhases_20 fi lc w0 w1 hg)) [6, 7, 8, 9] (pk_c rfl (pk_c rfl (pk_c rfl (pk_c rfl pk_n)))) rfl (pk_c rfl (pk_c rfl (pk_c rfl (pk_c rfl pk_n)))) (em_f (em_f (em_f (em_f (em_f (em_f (em_t (em_t (em_t (em_t em_n)))))))))) rfl ml_X2_add wm_X1_120 (q0 := 0) rfl rfl rfl ⟨Nat.le_of_ble_eq_true rfl, Nat.le_of_ble_eq_true rfl⟩ ⟨Nat.zero_le _, Nat.zero_le _⟩ hl.1 rfl (Nat.le_of_ble_eq_true rfl) dX1_enterPhases_48 (fun H locs X => ?_)
        refine lv_goto (tgt := 64) hx hb dX1_enterPhases_51 (by decide) ?_
        exact J64_33 (f_X5_enter_h w2 (w2 14)) (f_X2_add_h_fi (v_X1_enterPhases_14 fi lc w0 w1) (v_X1_enterPhases_15 lc w0 w1)) (f_X2_add_h_lc (v_X1_enterPhases_15 lc w0 w1)) (v_X1_enterPhases_22 fi lc w0 w1 lt T) (v_X1_enterPhases_23 fi lc w0 w1 lk) (v_X1_enterPhases_24 fi lc w0 w1 w2 lv) _ _ _ (by first | (rw [v_X1_enterPhases_25, if_neg c0_0]; done) | (rw [v_X1_enterPhases_25, if_neg c0_0]; rfl) | (simp only [v_X1_enterPhases_25, if_neg c0_0]; done)) (by first | (rw [v_X1_enterPhases_26, if_neg c0_0]; done) | (rw [v_X1_enterPhases_26, if_neg c0_0]; rfl) | (simp only [v_X1_enterPhases_26, if_neg c0_0]; done)) (by first | (rw [v_X1_enterPhases_27, if_neg c0_0]; done) | (rw [v_X1_enterPhases_27, if_neg c0_0]; rfl) | (simp only [v_X1_enterPhases_27, if_neg c0_0]; done)) (by first | (rw [v_X1_enterPhases_28, if_neg c0_0]; done) | (rw [v_X1_enterPhases_28, if_neg c0_0]; rfl) | (simp only [v_X1_enterPhases_28, if_neg c0_0]; done)) (by first | (rw [v_X1_enterPhases_29, if_neg c0_0]; done) | (rw [v_X1_enterPhases_29, if_neg c0_0]; rfl) | (simp only [v_X1_enterPhases_29, if_neg c0_0]; done)) (by first | (rw [v_X1_enterPhases_30, if_neg c0_0]; done) | (rw [v_X1_enterPhases_30, if_neg c0_0]; rfl) | (simp only [v_X1_enterPhases_30, if_neg c0_0]; done)) (lv_sub hl [0, 1, 2, 3] rfl) X
    refine lv_icmp_eq (tgt := 54) hx hb dX1_enterPhases_22 (by decide) (fun c0_0 => ?_) (fun c0_0 => ?_)
    · refine lv_aload_n hx hb dX1_enterPhases_54 rfl (lv_at hl 0 rfl) ?_
      refine lv_dup hx hb dX1_enterPhases_55 rfl ?_
      refine get_wh_3 C hK X 3 rfl fl_X1_165 dX1_enterPhases_56 ?_
      refine lv_iconst (v := 1) hx hb dX1_enterPhases_59 (by decide) ?_
      refine lv_iadd hx hb dX1_enterPhases_60 ?_
      refine put_wh_3 C hK X 3 rfl pl_X1_165 dX1_enterPhases_61 (fun H locs X => ?_)
      have X : Wd D A s.heap [(h, ctE z aw al), (aw, waE ty a0 a1 a2 a3), (a0, whE (v_X1_enterPhases_1 w0) m0), (a1, whE (upd w1 3 ((w1 3) + 1)) m1), (a2, whE w2 m2), (a3, whE w3 m3), (al, loE (v_X1_enterPhases_2 fi lc w0) (v_X1_enterPhases_3 lc w0) t k v), (t, arE ty 40 (v_X1_enterPhases_4 fi lc w0 lt T)), (k, arE ty 40 (v_X1_enterPhases_5 fi lc w0 lk)), (v, arE ty 40 (v_X1_enterPhases_6 fi lc w0 lv))] H locs := X
      exact J64_21 (upd w1 3 ((w1 3) + 1)) (v_X1_enterPhases_2 fi lc w0) (v_X1_enterPhases_3 lc w0) (v_X1_enterPhases_4 fi lc w0 lt T) (v_X1_enterPhases_5 fi lc w0 lk) (v_X1_enterPhases_6 fi lc w0 lv) _ _ _ (by first | (rw [v_X1_enterPhases_13, if_pos c0_0]; done) | (rw [v_X1_enterPhases_13, if_pos c0_0]; rfl) | (simp only [v_X1_enterPhases_13, if_pos c0_0]; done)) (by first | (rw [v_X1_enterPhases_14, if_pos c0_0]; done) | (rw [v_X1_enterPhases_14, if_pos c0_0]; rfl) | (simp only [v_X1_enterPhases_14, if_pos c0_0]; done)) (by first | (rw [v_X1_enterPhases_15, if_pos c0_0]; done) | (rw [v_X1_enterPhases_15, if_pos c0_0]; rfl) | (simp only [v_X1_enterPhases_15, if_pos c0_0]; done)) (by first | (rw [v_X1_enterPhases_16, if_pos c0_0]; done) | (rw [v_X1_enterPhases_16, if_pos c0_0]; rfl) | (simp only [v_X1_enterPhases_16, if_pos c0_0]; done)) (by first | (rw [v_X1_enterPhases_17, if_pos c0_0]; done) | (rw [v_X1_enterPhases_17, if_pos c0_0]; rfl) | (simp only [v_X1_enterPhases_17, if_pos c0_0]; done)) (by first | (rw [v_X1_enterPhases_18, if_pos c0_0]; done) | (rw [v_X1_enterPhases_18, if_pos c0_0]; rfl) | (simp only [v_X1_enterPhases_18, if_pos c0_0]; done)) (lv_sub hl [0, 1, 2, 3] rfl) X
    · refine lv_aload_n hx hb dX1_enterPhases_25 rfl (lv_at hl 0 rfl) ?_
      refine lv_aload_n hx hb dX1_enterPhases_26 rfl (lv_at hl 0 rfl) ?_
      refine get_wh_15 C hK X 3 rfl fl_X1_139 dX1_enterPhases_27 ?_
      refine s_cVv (ws' := [(h, ctE z aw al), (aw, waE ty a0 a1 a2 a3), (a0, whE (v_X1_enterPhases_1 w0) m0), (a1, whE (f_X5_enter_h w1 (w1 14)) m1), (a2, whE w2 m2), (a3, whE w3 m3), (al, loE (v_X1_enterPhases_2 fi lc w0) (v_X1_enterPhases_3 lc w0) t k v), (t, arE ty 40 (v_X1_enterPhases_4 fi lc w0 lt T)), (k, arE ty 40 (v_X1_enterPhases_5 fi lc w0 lk)), (v, arE ty 40 (v_X1_enterPhases_6 fi lc w0 lv))]) C hK hA X (c_X5_enter l D ty a1 m1 w1 (w1 14)) [3] (pk_c rfl pk_n) rfl (pk_c rfl pk_n) (em_f (em_f (em_f (em_t (em_f (em_f (em_f (em_f (em_f (em_f em_n)))))))))) rfl ml_X5_enter wm_X1_162 (q0 := 0) rfl rfl rfl ⟨Nat.le_of_ble_eq_true rfl, Nat.le_of_ble_eq_true rfl⟩ ⟨Nat.zero_le _, Nat.zero_le _⟩ hl.1 rfl (Nat.le_of_ble_eq_true rfl) dX1_enterPhases_30 (fun H locs X => ?_)
      refine lv_aload_n hx hb dX1_enterPhases_33 rfl (lv_at hl 2 rfl) ?_
      refine get_ct_1 C hK X 0 rfl fl_X1_21 dX1_enterPhases_34 ?_
      refine lv_iload_n hx hb dX1_enterPhases_37 rfl (lv_at hl 3 rfl) ?_
      refine lv_iconst (v := 0) hx hb dX1_enterPhases_38 (by decide) ?_
      refine lv_bipush (v := 10) hx hb dX1_enterPhases_39 (by decide) ?_
      refine lv_iload_n hx hb dX1_enterPhases_41 rfl (lv_at hl 1 rfl) ?_
      refine lv_imul hx hb dX1_enterPhases_42 ?_
      refine s_eqi (y := 10) (by decide) ?_
      refine lv_aload_n hx hb dX1_enterPhases_43 rfl (lv_at hl 0 rfl) ?_
      refine get_wh_2 C hK X 3 rfl fl_X1_156 dX1_enterPhases_44 ?_
      refine lv_iadd hx hb dX1_enterPhases_47 ?_
      refine s_cVv (ws' := [(h, ctE z aw al), (aw, waE ty a0 a1 a2 a3), (a0, whE (v_X1_enterPhases_1 w0) m0), (a1, whE (f_X5_enter_h w1 (w1 14)) m1), (a2, whE w2 m2), (a3, whE w3 m3), (al, loE (f_X2_add_h_fi (v_X1_enterPhases_2 fi lc w0) (v_X1_enterPhases_3 lc w0)) (f_X2_add_h_lc (v_X1_enterPhases_3 lc w0)) t k v), (t, arE ty 40 (v_X1_enterPhases_10 fi lc w0 lt T)), (k, arE ty 40 (v_X1_enterPhases_11 fi lc w0 lk)), (v, arE ty 40 (v_X1_enterPhases_12 fi lc w0 w1 lv))]) C hK hA X (c_X2_add l D ty al t k v (v_X1_enterPhases_2 fi lc w0) (v_X1_enterPhases_3 lc w0) (v_X1_enterPhases_4 fi lc w0 lt T) (v_X1_enterPhases_5 fi lc w0 lk) (v_X1_enterPhases_6 fi lc w0 lv) T 0 (10 + ((f_X5_enter_h w1 (w1 14)) 2)) (okm_X1_enterPhases_8 fi lc w0 hg)) [6, 7, 8, 9] (pk_c rfl (pk_c rfl (pk_c rfl (pk_c rfl pk_n)))) rfl (pk_c rfl (pk_c rfl (pk_c rfl (pk_c rfl pk_n)))) (em_f (em_f (em_f (em_f (em_f (em_f (em_t (em_t (em_t (em_t em_n)))))))))) rfl ml_X2_add wm_X1_120 (q0 := 0) rfl rfl rfl ⟨Nat.le_of_ble_eq_true rfl, Nat.le_of_ble_eq_true rfl⟩ ⟨Nat.zero_le _, Nat.zero_le _⟩ hl.1 rfl (Nat.le_of_ble_eq_true rfl) dX1_enterPhases_48 (fun H locs X => ?_)
      refine lv_goto (tgt := 64) hx hb dX1_enterPhases_51 (by decide) ?_
      exact J64_21 (f_X5_enter_h w1 (w1 14)) (f_X2_add_h_fi (v_X1_enterPhases_2 fi lc w0) (v_X1_enterPhases_3 lc w0)) (f_X2_add_h_lc (v_X1_enterPhases_3 lc w0)) (v_X1_enterPhases_10 fi lc w0 lt T) (v_X1_enterPhases_11 fi lc w0 lk) (v_X1_enterPhases_12 fi lc w0 w1 lv) _ _ _ (by first | (rw [v_X1_enterPhases_13, if_neg c0_0]; done) | (rw [v_X1_enterPhases_13, if_neg c0_0]; rfl) | (simp only [v_X1_enterPhases_13, if_neg c0_0]; done)) (by first | (rw [v_X1_enterPhases_14, if_neg c0_0]; done) | (rw [v_X1_enterPhases_14, if_neg c0_0]; rfl) | (simp only [v_X1_enterPhases_14, if_neg c0_0]; done)) (by first | (rw [v_X1_enterPhases_15, if_neg c0_0]; done) | (rw [v_X1_enterPhases_15, if_neg c0_0]; rfl) | (simp only [v_X1_enterPhases_15, if_neg c0_0]; done)) (by first | (rw [v_X1_enterPhases_16, if_neg c0_0]; done) | (rw [v_X1_enterPhases_16, if_neg c0_0]; rfl) | (simp only [v_X1_enterPhases_16, if_neg c0_0]; done)) (by first | (rw [v_X1_enterPhases_17, if_neg c0_0]; done) | (rw [v_X1_enterPhases_17, if_neg c0_0]; rfl) | (simp only [v_X1_enterPhases_17, if_neg c0_0]; done)) (by first | (rw [v_X1_enterPhases_18, if_neg c0_0]; done) | (rw [v_X1_enterPhases_18, if_neg c0_0]; rfl) | (simp only [v_X1_enterPhases_18, if_neg c0_0]; done)) (lv_sub hl [0, 1, 2, 3] rfl) X
  refine lv_icmp_eq (tgt := 54) hx hb dX1_enterPhases_22 (by decide) (fun c0_0 => ?_) (fun c0_0 => ?_)
  · refine lv_aload_n hx hb dX1_enterPhases_54 rfl (lv_at hl 0 rfl) ?_
    refine lv_dup hx hb dX1_enterPhases_55 rfl ?_
    refine get_wh_3 C hK X 2 rfl fl_X1_165 dX1_enterPhases_56 ?_
    refine lv_iconst (v := 1) hx hb dX1_enterPhases_59 (by decide) ?_
    refine lv_iadd hx hb dX1_enterPhases_60 ?_
    refine put_wh_3 C hK X 2 rfl pl_X1_165 dX1_enterPhases_61 (fun H locs X => ?_)
    have X : Wd D A s.heap [(h, ctE z aw al), (aw, waE ty a0 a1 a2 a3), (a0, whE (upd w0 3 ((w0 3) + 1)) m0), (a1, whE w1 m1), (a2, whE w2 m2), (a3, whE w3 m3), (al, loE fi lc t k v), (t, arE ty 40 lt), (k, arE ty 40 lk), (v, arE ty 40 lv)] H locs := X
    exact J64_9 (upd w0 3 ((w0 3) + 1)) fi lc lt lk lv _ _ _ (by first | (rw [v_X1_enterPhases_1, if_pos c0_0]; done) | (rw [v_X1_enterPhases_1, if_pos c0_0]; rfl) | (simp only [v_X1_enterPhases_1, if_pos c0_0]; done)) (by first | (rw [v_X1_enterPhases_2, if_pos c0_0]; done) | (rw [v_X1_enterPhases_2, if_pos c0_0]; rfl) | (simp only [v_X1_enterPhases_2, if_pos c0_0]; done)) (by first | (rw [v_X1_enterPhases_3, if_pos c0_0]; done) | (rw [v_X1_enterPhases_3, if_pos c0_0]; rfl) | (simp only [v_X1_enterPhases_3, if_pos c0_0]; done)) (by first | (rw [v_X1_enterPhases_4, if_pos c0_0]; done) | (rw [v_X1_enterPhases_4, if_pos c0_0]; rfl) | (simp only [v_X1_enterPhases_4, if_pos c0_0]; done)) (by first | (rw [v_X1_enterPhases_5, if_pos c0_0]; done) | (rw [v_X1_enterPhases_5, if_pos c0_0]; rfl) | (simp only [v_X1_enterPhases_5, if_pos c0_0]; done)) (by first | (rw [v_X1_enterPhases_6, if_pos c0_0]; done) | (rw [v_X1_enterPhases_6, if_pos c0_0]; rfl) | (simp only [v_X1_enterPhases_6, if_pos c0_0]; done)) (lv_sub hl [0, 1, 2, 3] rfl) X
  · refine lv_aload_n hx hb dX1_enterPhases_25 rfl (lv_at hl 0 rfl) ?_
    refine lv_aload_n hx hb dX1_enterPhases_26 rfl (lv_at hl 0 rfl) ?_
    refine get_wh_15 C hK X 2 rfl fl_X1_139 dX1_enterPhases_27 ?_
    refine s_cVv (ws' := [(h, ctE z aw al), (aw, waE ty a0 a1 a2 a3), (a0, whE (f_X5_enter_h w0 (w0 14)) m0), (a1, whE w1 m1), (a2, whE w2 m2), (a3, whE w3 m3), (al, loE fi lc t k v), (t, arE ty 40 lt), (k, arE ty 40 lk), (v, arE ty 40 lv)]) C hK hA X (c_X5_enter l D ty a0 m0 w0 (w0 14)) [2] (pk_c rfl pk_n) rfl (pk_c rfl pk_n) (em_f (em_f (em_t (em_f (em_f (em_f (em_f (em_f (em_f (em_f em_n)))))))))) rfl ml_X5_enter wm_X1_162 (q0 := 0) rfl rfl rfl ⟨Nat.le_of_ble_eq_true rfl, Nat.le_of_ble_eq_true rfl⟩ ⟨Nat.zero_le _, Nat.zero_le _⟩ hl.1 rfl (Nat.le_of_ble_eq_true rfl) dX1_enterPhases_30 (fun H locs X => ?_)
    refine lv_aload_n hx hb dX1_enterPhases_33 rfl (lv_at hl 2 rfl) ?_
    refine get_ct_1 C hK X 0 rfl fl_X1_21 dX1_enterPhases_34 ?_
    refine lv_iload_n hx hb dX1_enterPhases_37 rfl (lv_at hl 3 rfl) ?_
    refine lv_iconst (v := 0) hx hb dX1_enterPhases_38 (by decide) ?_
    refine lv_bipush (v := 10) hx hb dX1_enterPhases_39 (by decide) ?_
    refine lv_iload_n hx hb dX1_enterPhases_41 rfl (lv_at hl 1 rfl) ?_
    refine lv_imul hx hb dX1_enterPhases_42 ?_
    refine s_eqi (y := 0) (by decide) ?_
    refine lv_aload_n hx hb dX1_enterPhases_43 rfl (lv_at hl 0 rfl) ?_
    refine get_wh_2 C hK X 2 rfl fl_X1_156 dX1_enterPhases_44 ?_
    refine lv_iadd hx hb dX1_enterPhases_47 ?_
    refine s_cVv (ws' := [(h, ctE z aw al), (aw, waE ty a0 a1 a2 a3), (a0, whE (f_X5_enter_h w0 (w0 14)) m0), (a1, whE w1 m1), (a2, whE w2 m2), (a3, whE w3 m3), (al, loE (f_X2_add_h_fi fi lc) (f_X2_add_h_lc lc) t k v), (t, arE ty 40 (f_X2_add_t fi lc lt T)), (k, arE ty 40 (f_X2_add_k fi lc lk 0)), (v, arE ty 40 (f_X2_add_v fi lc lv (0 + ((f_X5_enter_h w0 (w0 14)) 2))))]) C hK hA X (c_X2_add l D ty al t k v fi lc lt lk lv T 0 (0 + ((f_X5_enter_h w0 (w0 14)) 2)) hg) [6, 7, 8, 9] (pk_c rfl (pk_c rfl (pk_c rfl (pk_c rfl pk_n)))) rfl (pk_c rfl (pk_c rfl (pk_c rfl (pk_c rfl pk_n)))) (em_f (em_f (em_f (em_f (em_f (em_f (em_t (em_t (em_t (em_t em_n)))))))))) rfl ml_X2_add wm_X1_120 (q0 := 0) rfl rfl rfl ⟨Nat.le_of_ble_eq_true rfl, Nat.le_of_ble_eq_true rfl⟩ ⟨Nat.zero_le _, Nat.zero_le _⟩ hl.1 rfl (Nat.le_of_ble_eq_true rfl) dX1_enterPhases_48 (fun H locs X => ?_)
    refine lv_goto (tgt := 64) hx hb dX1_enterPhases_51 (by decide) ?_
    exact J64_9 (f_X5_enter_h w0 (w0 14)) (f_X2_add_h_fi fi lc) (f_X2_add_h_lc lc) (f_X2_add_t fi lc lt T) (f_X2_add_k fi lc lk 0) (f_X2_add_v fi lc lv (0 + ((f_X5_enter_h w0 (w0 14)) 2))) _ _ _ (by first | (rw [v_X1_enterPhases_1, if_neg c0_0]; done) | (rw [v_X1_enterPhases_1, if_neg c0_0]; rfl) | (simp only [v_X1_enterPhases_1, if_neg c0_0]; done)) (by first | (rw [v_X1_enterPhases_2, if_neg c0_0]; done) | (rw [v_X1_enterPhases_2, if_neg c0_0]; rfl) | (simp only [v_X1_enterPhases_2, if_neg c0_0]; done)) (by first | (rw [v_X1_enterPhases_3, if_neg c0_0]; done) | (rw [v_X1_enterPhases_3, if_neg c0_0]; rfl) | (simp only [v_X1_enterPhases_3, if_neg c0_0]; done)) (by first | (rw [v_X1_enterPhases_4, if_neg c0_0]; done) | (rw [v_X1_enterPhases_4, if_neg c0_0]; rfl) | (simp only [v_X1_enterPhases_4, if_neg c0_0]; done)) (by first | (rw [v_X1_enterPhases_5, if_neg c0_0]; done) | (rw [v_X1_enterPhases_5, if_neg c0_0]; rfl) | (simp only [v_X1_enterPhases_5, if_neg c0_0]; done)) (by first | (rw [v_X1_enterPhases_6, if_neg c0_0]; done) | (rw [v_X1_enterPhases_6, if_neg c0_0]; rfl) | (simp only [v_X1_enterPhases_6, if_neg c0_0]; done)) (lv_sub hl [0, 1, 2, 3] rfl) X
def v_X1_dump_0_1 (z : F1) : Int32 := (if (z 1) ≤ 550 then 0 else 1)
def v_X1_dump_0_3 (z : F1) (w0 : F1) : F1 := (if (v_X1_dump_0_1 z) = 0 then (upd z 1 ((z 1) + (mn (w0 1) 50))) else z)
def v_X1_dump_0_4 (z : F1) (w0 : F1) : F1 := (if (v_X1_dump_0_1 z) = 0 then (upd w0 1 ((w0 1) - (mn (w0 1) 50))) else w0)
def v_X1_dump_0_5 (fi : Nat) (lc : Nat) (z : F1) : Nat := (if (v_X1_dump_0_1 z) = 0 then fi else (if (z 5) = 0 then (f_X2_add_h_fi fi lc) else fi))
def v_X1_dump_0_6 (lc : Nat) (z : F1) : Nat := (if (v_X1_dump_0_1 z) = 0 then lc else (if (z 5) = 0 then (f_X2_add_h_lc lc) else lc))
def v_X1_dump_0_7 (fi : Nat) (lc : Nat) (z : F1) (lt : F1) (T : Int32) : F1 := (if (v_X1_dump_0_1 z) = 0 then lt else (if (z 5) = 0 then (f_X2_add_t fi lc lt T) else lt))
def v_X1_dump_0_8 (fi : Nat) (lc : Nat) (z : F1) (lk : F1) : F1 := (if (v_X1_dump_0_1 z) = 0 then lk else (if (z 5) = 0 then (f_X2_add_k fi lc lk 2) else lk))
def v_X1_dump_0_9 (fi : Nat) (lc : Nat) (z : F1) (lv : F1) : F1 := (if (v_X1_dump_0_1 z) = 0 then lv else (if (z 5) = 0 then (f_X2_add_v fi lc lv 0) else lv))
theorem okm_X1_dump_0_10 (z : F1) (w0 : F1) (tk_a0 : kpOK w0) : kpOK (v_X1_dump_0_4 z w0) := by
  by_cases k0 : (v_X1_dump_0_1 z) = 0
  · (try simp only [v_X1_dump_0_4, if_pos k0]); exact (kp_upd tk_a0)
  · by_cases k1 : (z 5) = 0
    · (try simp only [v_X1_dump_0_4, if_neg k0, if_pos k1]); exact tk_a0
    · (try simp only [v_X1_dump_0_4, if_neg k0, if_neg k1]); exact tk_a0
theorem okm_X1_dump_0_11 (fi : Nat) (lc : Nat) (z : F1) (hg : lgOK fi lc) : lgOK (v_X1_dump_0_5 fi lc z) (v_X1_dump_0_6 lc z) := by
  by_cases k0 : (v_X1_dump_0_1 z) = 0
  · (try simp only [v_X1_dump_0_5, v_X1_dump_0_6, if_pos k0]); exact hg
  · by_cases k1 : (z 5) = 0
    · (try simp only [v_X1_dump_0_5, v_X1_dump_0_6, if_neg k0, if_pos k1]); exact (ok_X2_add_h fi lc hg)
    · (try simp only [v_X1_dump_0_5, v_X1_dump_0_6, if_neg k0, if_neg k1]); exact hg
def f_X1_dump_0_h (z : F1) (w0 : F1) : F1 := (upd (v_X1_dump_0_3 z w0) 5 (v_X1_dump_0_1 z))
def f_X1_dump_0_a0 (z : F1) (w0 : F1) : F1 := (v_X1_dump_0_4 z w0)
def f_X1_dump_0_al_fi (fi : Nat) (lc : Nat) (z : F1) : Nat := (v_X1_dump_0_5 fi lc z)
def f_X1_dump_0_al_lc (lc : Nat) (z : F1) : Nat := (v_X1_dump_0_6 lc z)
def f_X1_dump_0_t (fi : Nat) (lc : Nat) (z : F1) (lt : F1) (T : Int32) : F1 := (v_X1_dump_0_7 fi lc z lt T)
def f_X1_dump_0_k (fi : Nat) (lc : Nat) (z : F1) (lk : F1) : F1 := (v_X1_dump_0_8 fi lc z lk)
def f_X1_dump_0_v (fi : Nat) (lc : Nat) (z : F1) (lv : F1) : F1 := (v_X1_dump_0_9 fi lc z lv)
theorem dump_b (z : F1) : isB (if z 1 ≤ 550 then 0 else 1) := isB_ite isB0 isB1
theorem ok_X1_dump_0_a0 (z : F1) (w0 : F1) (tk_a0 : kpOK w0) : kpOK (f_X1_dump_0_a0 z w0) := by
  (try simp only [f_X1_dump_0_a0]); exact (okm_X1_dump_0_10 z w0 tk_a0)
theorem ok_X1_dump_0_al (fi : Nat) (lc : Nat) (z : F1) (hg : lgOK fi lc) : lgOK (f_X1_dump_0_al_fi fi lc z) (f_X1_dump_0_al_lc lc z) := by
  (try simp only [f_X1_dump_0_al_fi, f_X1_dump_0_al_lc]); exact (okm_X1_dump_0_11 fi lc z hg)
set_option maxHeartbeats 4000000 in
set_option maxRecDepth 100000 in
theorem c_X1_dump_0 (l : Launch) (D : va_G) (ty : Nat → ClassId) (h : Nat) (aw : Nat) (al : Nat) (a0 : Nat) (a1 : Nat) (a2 : Nat) (a3 : Nat) (m0 : Nat) (t : Nat) (k : Nat) (v : Nat) (fi : Nat) (lc : Nat) (z : F1) (w0 : F1) (lt : F1) (lk : F1) (lv : F1) (T : Int32) (hg : lgOK fi lc) : MC l D ty yX1_dump cX1_dump 5 none 1 [.ref h, .int 0, .int T] [(h, ctE z aw al), (aw, waE ty a0 a1 a2 a3), (a0, whE w0 m0), (al, loE fi lc t k v), (t, arE ty 40 lt), (k, arE ty 40 lk), (v, arE ty 40 lv)] none [(h, ctE (f_X1_dump_0_h z w0) aw al), (aw, waE ty a0 a1 a2 a3), (a0, whE (f_X1_dump_0_a0 z w0) m0), (al, loE (f_X1_dump_0_al_fi fi lc z) (f_X1_dump_0_al_lc lc z) t k v), (t, arE ty 40 (f_X1_dump_0_t fi lc z lt T)), (k, arE ty 40 (f_X1_dump_0_k fi lc z lk)), (v, arE ty 40 (f_X1_dump_0_v fi lc z lv))] := by
  refine mc_v (by decide +kernel) (Nat.le_of_ble_eq_true rfl) ?_
  intro p e s m args below meth c A Q ls C hK hA X hret hl
  have hx := C.1
  have hb := C.2.1
  have hl : lv_has ls 5 [(0, .ref h), (1, .int 0), (2, .int T)] := hl
  have X : Wd D A s.heap [(h, ctE z aw al), (aw, waE ty a0 a1 a2 a3), (a0, whE w0 m0), (al, loE fi lc t k v), (t, arE ty 40 lt), (k, arE ty 40 lk), (v, arE ty 40 lv)] s.heap [] := X
  refine lv_aload_n hx hb dX1_dump_0 rfl (lv_at hl 0 rfl) ?_
  refine get_ct_4 C hK X 0 rfl fl_X1_45 dX1_dump_1 ?_
  refine lv_sipush (v := 550) hx hb dX1_dump_4 (by decide) ?_
  have J15_2 : ∀ (x1 : Int32) (ls : Array Slot) (H : Heap) (locs : List Loc), x1 = (v_X1_dump_0_1 z) → lv_has ls 5 [(0, .ref h), (1, .int 0), (2, .int T)] → Wd D A s.heap [(h, ctE z aw al), (aw, waE ty a0 a1 a2 a3), (a0, whE w0 m0), (al, loE fi lc t k v), (t, arE ty 40 lt), (k, arE ty 40 lk), (v, arE ty 40 lv)] H locs → W p l e (rmD 1) s m args below meth c H locs 0 0 Q (F0 m 15 ls [.int x1]) := by
    intro x1 ls H locs ex1 hl X
    subst ex1
    refine lv_istore_n (lv' := [(3, .int (v_X1_dump_0_1 z)), (0, .ref h), (1, .int 0), (2, .int T)]) hx hb dX1_dump_15 rfl hl (by decide) rfl (fun ls hl => ?_)
    refine lv_iload_n hx hb dX1_dump_16 rfl (lv_at hl 0 rfl) ?_
    have J83_12 : ∀ (x3 : F1) (x4 : F1) (x5 : Nat) (x6 : Nat) (x7 : F1) (x8 : F1) (x9 : F1) (ls : Array Slot) (H : Heap) (locs : List Loc), x3 = (v_X1_dump_0_3 z w0) → x4 = (v_X1_dump_0_4 z w0) → x5 = (v_X1_dump_0_5 fi lc z) → x6 = (v_X1_dump_0_6 lc z) → x7 = (v_X1_dump_0_7 fi lc z lt T) → x8 = (v_X1_dump_0_8 fi lc z lk) → x9 = (v_X1_dump_0_9 fi lc z lv) → lv_has ls 5 [(3, .int (v_X1_dump_0_1 z)), (0, .ref h), (1, .int 0), (2, .int T)] → Wd D A s.heap [(h, ctE x3 aw al), (aw, waE ty a0 a1 a2 a3), (a0, whE x4 m0), (al, loE x5 x6 t k v), (t, arE ty 40 x7), (k, arE ty 40 x8), (v, arE ty 40 x9)] H locs → W p l e (rmD 1) s m args below meth c H locs 0 0 Q (F0 m 83 ls []) := by
      intro x3 x4 x5 x6 x7 x8 x9 ls H locs ex3 ex4 ex5 ex6 ex7 ex8 ex9 hl X
      subst ex3; subst ex4; subst ex5; subst ex6; subst ex7; subst ex8; subst ex9
      refine lv_aload_n hx hb dX1_dump_83 rfl (lv_at hl 1 rfl) ?_
      refine lv_iload_n hx hb dX1_dump_84 rfl (lv_at hl 0 rfl) ?_
      refine put_ct_7 C hK X 0 rfl pl_X1_51 (dump_b _) dX1_dump_85 (fun H locs X => ?_)
      have X : Wd D A s.heap [(h, ctE (upd (v_X1_dump_0_3 z w0) 5 (v_X1_dump_0_1 z)) aw al), (aw, waE ty a0 a1 a2 a3), (a0, whE (v_X1_dump_0_4 z w0) m0), (al, loE (v_X1_dump_0_5 fi lc z) (v_X1_dump_0_6 lc z) t k v), (t, arE ty 40 (v_X1_dump_0_7 fi lc z lt T)), (k, arE ty 40 (v_X1_dump_0_8 fi lc z lk)), (v, arE ty 40 (v_X1_dump_0_9 fi lc z lv))] H locs := X
      have e_0_0 : (f_X1_dump_0_h z w0) = (upd (v_X1_dump_0_3 z w0) 5 (v_X1_dump_0_1 z)) := by first | (rw [f_X1_dump_0_h]; done) | (rw [f_X1_dump_0_h]; rfl) | (simp only [f_X1_dump_0_h]; done)
      have e_2_0 : (f_X1_dump_0_a0 z w0) = (v_X1_dump_0_4 z w0) := by first | (rw [f_X1_dump_0_a0]; done) | (rw [f_X1_dump_0_a0]; rfl) | (simp only [f_X1_dump_0_a0]; done)
      have e_3_0 : (f_X1_dump_0_al_fi fi lc z) = (v_X1_dump_0_5 fi lc z) := by first | (rw [f_X1_dump_0_al_fi]; done) | (rw [f_X1_dump_0_al_fi]; rfl) | (simp only [f_X1_dump_0_al_fi]; done)
      have e_3_1 : (f_X1_dump_0_al_lc lc z) = (v_X1_dump_0_6 lc z) := by first | (rw [f_X1_dump_0_al_lc]; done) | (rw [f_X1_dump_0_al_lc]; rfl) | (simp only [f_X1_dump_0_al_lc]; done)
      have e_4_1 : (f_X1_dump_0_t fi lc z lt T) = (v_X1_dump_0_7 fi lc z lt T) := by first | (rw [f_X1_dump_0_t]; done) | (rw [f_X1_dump_0_t]; rfl) | (simp only [f_X1_dump_0_t]; done)
      have e_5_1 : (f_X1_dump_0_k fi lc z lk) = (v_X1_dump_0_8 fi lc z lk) := by first | (rw [f_X1_dump_0_k]; done) | (rw [f_X1_dump_0_k]; rfl) | (simp only [f_X1_dump_0_k]; done)
      have e_6_1 : (f_X1_dump_0_v fi lc z lv) = (v_X1_dump_0_9 fi lc z lv) := by first | (rw [f_X1_dump_0_v]; done) | (rw [f_X1_dump_0_v]; rfl) | (simp only [f_X1_dump_0_v]; done)
      exact hret _ _ _ _ _ dX1_dump_88 X (by rw [e_0_0, e_2_0, e_3_0, e_3_1, e_4_1, e_5_1, e_6_1])
    refine lv_if_ne (tgt := 66) hx hb dX1_dump_17 (by decide) (fun c0_0 => ?_) (fun c0_0 => ?_)
    · refine lv_aload_n hx hb dX1_dump_66 rfl (lv_at hl 1 rfl) ?_
      refine get_ct_7 C hK X 0 rfl fl_X1_51 dX1_dump_67 ?_
      refine lv_if_ne (tgt := 83) hx hb dX1_dump_70 (by decide) (fun c1_1 => ?_) (fun c1_1 => ?_)
      · exact J83_12 z w0 fi lc lt lk lv _ _ _ (by first | (rw [v_X1_dump_0_3, if_neg c0_0]; done) | (rw [v_X1_dump_0_3, if_neg c0_0]; rfl) | (simp only [v_X1_dump_0_3, if_neg c0_0]; done)) (by first | (rw [v_X1_dump_0_4, if_neg c0_0]; done) | (rw [v_X1_dump_0_4, if_neg c0_0]; rfl) | (simp only [v_X1_dump_0_4, if_neg c0_0]; done)) (by first | (rw [v_X1_dump_0_5, if_neg c0_0, if_neg c1_1]; done) | (rw [v_X1_dump_0_5, if_neg c0_0, if_neg c1_1]; rfl) | (simp only [v_X1_dump_0_5, if_neg c0_0, if_neg c1_1]; done)) (by first | (rw [v_X1_dump_0_6, if_neg c0_0, if_neg c1_1]; done) | (rw [v_X1_dump_0_6, if_neg c0_0, if_neg c1_1]; rfl) | (simp only [v_X1_dump_0_6, if_neg c0_0, if_neg c1_1]; done)) (by first | (rw [v_X1_dump_0_7, if_neg c0_0, if_neg c1_1]; done) | (rw [v_X1_dump_0_7, if_neg c0_0, if_neg c1_1]; rfl) | (simp only [v_X1_dump_0_7, if_neg c0_0, if_neg c1_1]; done)) (by first | (rw [v_X1_dump_0_8, if_neg c0_0, if_neg c1_1]; done) | (rw [v_X1_dump_0_8, if_neg c0_0, if_neg c1_1]; rfl) | (simp only [v_X1_dump_0_8, if_neg c0_0, if_neg c1_1]; done)) (by first | (rw [v_X1_dump_0_9, if_neg c0_0, if_neg c1_1]; done) | (rw [v_X1_dump_0_9, if_neg c0_0, if_neg c1_1]; rfl) | (simp only [v_X1_dump_0_9, if_neg c0_0, if_neg c1_1]; done)) (lv_sub hl [0, 1, 2, 3] rfl) X
      · refine lv_aload_n hx hb dX1_dump_73 rfl (lv_at hl 1 rfl) ?_
        refine get_ct_1 C hK X 0 rfl fl_X1_21 dX1_dump_74 ?_
        refine lv_iload_n hx hb dX1_dump_77 rfl (lv_at hl 3 rfl) ?_
        refine lv_iconst (v := 2) hx hb dX1_dump_78 (by decide) ?_
        refine lv_iload_n hx hb dX1_dump_79 rfl (lv_at hl 2 rfl) ?_
        refine s_cVv (ws' := [(h, ctE z aw al), (aw, waE ty a0 a1 a2 a3), (a0, whE w0 m0), (al, loE (f_X2_add_h_fi fi lc) (f_X2_add_h_lc lc) t k v), (t, arE ty 40 (f_X2_add_t fi lc lt T)), (k, arE ty 40 (f_X2_add_k fi lc lk 2)), (v, arE ty 40 (f_X2_add_v fi lc lv 0))]) C hK hA X (c_X2_add l D ty al t k v fi lc lt lk lv T 2 0 hg) [3, 4, 5, 6] (pk_c rfl (pk_c rfl (pk_c rfl (pk_c rfl pk_n)))) rfl (pk_c rfl (pk_c rfl (pk_c rfl (pk_c rfl pk_n)))) (em_f (em_f (em_f (em_t (em_t (em_t (em_t em_n))))))) rfl ml_X2_add wm_X1_120 (q0 := 0) rfl rfl rfl ⟨Nat.le_of_ble_eq_true rfl, Nat.le_of_ble_eq_true rfl⟩ ⟨Nat.zero_le _, Nat.zero_le _⟩ hl.1 rfl (Nat.le_of_ble_eq_true rfl) dX1_dump_80 (fun H locs X => ?_)
        exact J83_12 z w0 (f_X2_add_h_fi fi lc) (f_X2_add_h_lc lc) (f_X2_add_t fi lc lt T) (f_X2_add_k fi lc lk 2) (f_X2_add_v fi lc lv 0) _ _ _ (by first | (rw [v_X1_dump_0_3, if_neg c0_0]; done) | (rw [v_X1_dump_0_3, if_neg c0_0]; rfl) | (simp only [v_X1_dump_0_3, if_neg c0_0]; done)) (by first | (rw [v_X1_dump_0_4, if_neg c0_0]; done) | (rw [v_X1_dump_0_4, if_neg c0_0]; rfl) | (simp only [v_X1_dump_0_4, if_neg c0_0]; done)) (by first | (rw [v_X1_dump_0_5, if_neg c0_0, if_pos c1_1]; done) | (rw [v_X1_dump_0_5, if_neg c0_0, if_pos c1_1]; rfl) | (simp only [v_X1_dump_0_5, if_neg c0_0, if_pos c1_1]; done)) (by first | (rw [v_X1_dump_0_6, if_neg c0_0, if_pos c1_1]; done) | (rw [v_X1_dump_0_6, if_neg c0_0, if_pos c1_1]; rfl) | (simp only [v_X1_dump_0_6, if_neg c0_0, if_pos c1_1]; done)) (by first | (rw [v_X1_dump_0_7, if_neg c0_0, if_pos c1_1]; done) | (rw [v_X1_dump_0_7, if_neg c0_0, if_pos c1_1]; rfl) | (simp only [v_X1_dump_0_7, if_neg c0_0, if_pos c1_1]; done)) (by first | (rw [v_X1_dump_0_8, if_neg c0_0, if_pos c1_1]; done) | (rw [v_X1_dump_0_8, if_neg c0_0, if_pos c1_1]; rfl) | (simp only [v_X1_dump_0_8, if_neg c0_0, if_pos c1_1]; done)) (by first | (rw [v_X1_dump_0_9, if_neg c0_0, if_pos c1_1]; done) | (rw [v_X1_dump_0_9, if_neg c0_0, if_pos c1_1]; rfl) | (simp only [v_X1_dump_0_9, if_neg c0_0, if_pos c1_1]; done)) (lv_sub hl [0, 1, 2, 3] rfl) X
    · refine lv_aload_n hx hb dX1_dump_20 rfl (lv_at hl 1 rfl) ?_
      refine get_ct_0 C hK X 0 rfl fl_X1_11 dX1_dump_21 ?_
      refine lv_iload_n hx hb dX1_dump_24 rfl (lv_at hl 2 rfl) ?_
      refine s_aald (t0 := 2) (b := a0) C hK X 1 rfl rfl (vp_in_nI (n := 0) (by decide) (by decide)) rfl dX1_dump_25 ?_
      refine get_wh_1 C hK X 2 rfl fl_X1_159 dX1_dump_26 ?_
      refine lv_bipush (v := 50) hx hb dX1_dump_29 (by decide) ?_
      refine s_mn C hl.1 wm_X1_111 (Nat.le_of_ble_eq_true rfl) (Nat.le_of_ble_eq_true rfl) ⟨Nat.zero_le _, Nat.zero_le _⟩ dX1_dump_31 ?_
      refine lv_istore (lv' := [(4, .int (mn (w0 1) 50)), (3, .int (v_X1_dump_0_1 z)), (0, .ref h), (1, .int 0), (2, .int T)]) hx hb dX1_dump_34 hl (by decide) rfl (fun ls hl => ?_)
      refine lv_aload_n hx hb dX1_dump_36 rfl (lv_at hl 2 rfl) ?_
      refine get_ct_0 C hK X 0 rfl fl_X1_11 dX1_dump_37 ?_
      refine lv_iload_n hx hb dX1_dump_40 rfl (lv_at hl 3 rfl) ?_
      refine s_aald (t0 := 2) (b := a0) C hK X 1 rfl rfl (vp_in_nI (n := 0) (by decide) (by decide)) rfl dX1_dump_41 ?_
      refine lv_dup hx hb dX1_dump_42 rfl ?_
      refine get_wh_1 C hK X 2 rfl fl_X1_159 dX1_dump_43 ?_
      refine lv_iload hx hb dX1_dump_46 (lv_at hl 0 rfl) ?_
      refine lv_isub hx hb dX1_dump_48 ?_
      refine put_wh_1 C hK X 2 rfl pl_X1_159 dX1_dump_49 (fun H locs X => ?_)
      have X : Wd D A s.heap [(h, ctE z aw al), (aw, waE ty a0 a1 a2 a3), (a0, whE (upd w0 1 ((w0 1) - (mn (w0 1) 50))) m0), (al, loE fi lc t k v), (t, arE ty 40 lt), (k, arE ty 40 lk), (v, arE ty 40 lv)] H locs := X
      refine lv_aload_n hx hb dX1_dump_52 rfl (lv_at hl 2 rfl) ?_
      refine lv_dup hx hb dX1_dump_53 rfl ?_
      refine get_ct_4 C hK X 0 rfl fl_X1_45 dX1_dump_54 ?_
      refine lv_iload hx hb dX1_dump_57 (lv_at hl 0 rfl) ?_
      refine lv_iadd hx hb dX1_dump_59 ?_
      refine put_ct_4 C hK X 0 rfl pl_X1_45 dX1_dump_60 (fun H locs X => ?_)
      have X : Wd D A s.heap [(h, ctE (upd z 1 ((z 1) + (mn (w0 1) 50))) aw al), (aw, waE ty a0 a1 a2 a3), (a0, whE (upd w0 1 ((w0 1) - (mn (w0 1) 50))) m0), (al, loE fi lc t k v), (t, arE ty 40 lt), (k, arE ty 40 lk), (v, arE ty 40 lv)] H locs := X
      refine lv_goto (tgt := 83) hx hb dX1_dump_63 (by decide) ?_
      exact J83_12 (upd z 1 ((z 1) + (mn (w0 1) 50))) (upd w0 1 ((w0 1) - (mn (w0 1) 50))) fi lc lt lk lv _ _ _ (by first | (rw [v_X1_dump_0_3, if_pos c0_0]; done) | (rw [v_X1_dump_0_3, if_pos c0_0]; rfl) | (simp only [v_X1_dump_0_3, if_pos c0_0]; done)) (by first | (rw [v_X1_dump_0_4, if_pos c0_0]; done) | (rw [v_X1_dump_0_4, if_pos c0_0]; rfl) | (simp only [v_X1_dump_0_4, if_pos c0_0]; done)) (by first | (rw [v_X1_dump_0_5, if_pos c0_0]; done) | (rw [v_X1_dump_0_5, if_pos c0_0]; rfl) | (simp only [v_X1_dump_0_5, if_pos c0_0]; done)) (by first | (rw [v_X1_dump_0_6, if_pos c0_0]; done) | (rw [v_X1_dump_0_6, if_pos c0_0]; rfl) | (simp only [v_X1_dump_0_6, if_pos c0_0]; done)) (by first | (rw [v_X1_dump_0_7, if_pos c0_0]; done) | (rw [v_X1_dump_0_7, if_pos c0_0]; rfl) | (simp only [v_X1_dump_0_7, if_pos c0_0]; done)) (by first | (rw [v_X1_dump_0_8, if_pos c0_0]; done) | (rw [v_X1_dump_0_8, if_pos c0_0]; rfl) | (simp only [v_X1_dump_0_8, if_pos c0_0]; done)) (by first | (rw [v_X1_dump_0_9, if_pos c0_0]; done) | (rw [v_X1_dump_0_9, if_pos c0_0]; rfl) | (simp only [v_X1_dump_0_9, if_pos c0_0]; done)) (lv_sub hl [1, 2, 3, 4] rfl) X
  refine lv_icmp_le (tgt := 14) hx hb dX1_dump_7 (by decide) (fun c0_0 => ?_) (fun c0_0 => ?_)
  · refine lv_iconst (v := 0) hx hb dX1_dump_14 (by decide) ?_
    exact J15_2 0 _ _ _ (by first | (rw [v_X1_dump_0_1, if_pos c0_0]; done) | (rw [v_X1_dump_0_1, if_pos c0_0]; rfl) | (simp only [v_X1_dump_0_1, if_pos c0_0]; done)) (lv_sub hl [0, 1, 2] rfl) X
  · refine lv_iconst (v := 1) hx hb dX1_dump_10 (by decide) ?_
    refine lv_goto (tgt := 15) hx hb dX1_dump_11 (by decide) ?_
    exact J15_2 1 _ _ _ (by first | (rw [v_X1_dump_0_1, if_neg c0_0]; done) | (rw [v_X1_dump_0_1, if_neg c0_0]; rfl) | (simp only [v_X1_dump_0_1, if_neg c0_0]; done)) (lv_sub hl [0, 1, 2] rfl) X
def v_X1_dump_1_1 (z : F1) : Int32 := (if (z 1) ≤ 550 then 0 else 1)
def v_X1_dump_1_3 (z : F1) (w1 : F1) : F1 := (if (v_X1_dump_1_1 z) = 0 then (upd z 1 ((z 1) + (mn (w1 1) 50))) else z)
def v_X1_dump_1_4 (z : F1) (w1 : F1) : F1 := (if (v_X1_dump_1_1 z) = 0 then (upd w1 1 ((w1 1) - (mn (w1 1) 50))) else w1)
def v_X1_dump_1_5 (fi : Nat) (lc : Nat) (z : F1) : Nat := (if (v_X1_dump_1_1 z) = 0 then fi else (if (z 5) = 0 then (f_X2_add_h_fi fi lc) else fi))
def v_X1_dump_1_6 (lc : Nat) (z : F1) : Nat := (if (v_X1_dump_1_1 z) = 0 then lc else (if (z 5) = 0 then (f_X2_add_h_lc lc) else lc))
def v_X1_dump_1_7 (fi : Nat) (lc : Nat) (z : F1) (lt : F1) (T : Int32) : F1 := (if (v_X1_dump_1_1 z) = 0 then lt else (if (z 5) = 0 then (f_X2_add_t fi lc lt T) else lt))
def v_X1_dump_1_8 (fi : Nat) (lc : Nat) (z : F1) (lk : F1) : F1 := (if (v_X1_dump_1_1 z) = 0 then lk else (if (z 5) = 0 then (f_X2_add_k fi lc lk 2) else lk))
def v_X1_dump_1_9 (fi : Nat) (lc : Nat) (z : F1) (lv : F1) : F1 := (if (v_X1_dump_1_1 z) = 0 then lv else (if (z 5) = 0 then (f_X2_add_v fi lc lv 1) else lv))
theorem okm_X1_dump_1_10 (z : F1) (w1 : F1) (tk_a1 : kpOK w1) : kpOK (v_X1_dump_1_4 z w1) := by
  by_cases k0 : (v_X1_dump_1_1 z) = 0
  · (try simp only [v_X1_dump_1_4, if_pos k0]); exact (kp_upd tk_a1)
  · by_cases k1 : (z 5) = 0
    · (try simp only [v_X1_dump_1_4, if_neg k0, if_pos k1]); exact tk_a1
    · (try simp only [v_X1_dump_1_4, if_neg k0, if_neg k1]); exact tk_a1
theorem okm_X1_dump_1_11 (fi : Nat) (lc : Nat) (z : F1) (hg : lgOK fi lc) : lgOK (v_X1_dump_1_5 fi lc z) (v_X1_dump_1_6 lc z) := by
  by_cases k0 : (v_X1_dump_1_1 z) = 0
  · (try simp only [v_X1_dump_1_5, v_X1_dump_1_6, if_pos k0]); exact hg
  · by_cases k1 : (z 5) = 0
    · (try simp only [v_X1_dump_1_5, v_X1_dump_1_6, if_neg k0, if_pos k1]); exact (ok_X2_add_h fi lc hg)
    · (try simp only [v_X1_dump_1_5, v_X1_dump_1_6, if_neg k0, if_neg k1]); exact hg
def f_X1_dump_1_h (z : F1) (w1 : F1) : F1 := (upd (v_X1_dump_1_3 z w1) 5 (v_X1_dump_1_1 z))
def f_X1_dump_1_a1 (z : F1) (w1 : F1) : F1 := (v_X1_dump_1_4 z w1)
def f_X1_dump_1_al_fi (fi : Nat) (lc : Nat) (z : F1) : Nat := (v_X1_dump_1_5 fi lc z)
def f_X1_dump_1_al_lc (lc : Nat) (z : F1) : Nat := (v_X1_dump_1_6 lc z)
def f_X1_dump_1_t (fi : Nat) (lc : Nat) (z : F1) (lt : F1) (T : Int32) : F1 := (v_X1_dump_1_7 fi lc z lt T)
def f_X1_dump_1_k (fi : Nat) (lc : Nat) (z : F1) (lk : F1) : F1 := (v_X1_dump_1_8 fi lc z lk)
def f_X1_dump_1_v (fi : Nat) (lc : Nat) (z : F1) (lv : F1) : F1 := (v_X1_dump_1_9 fi lc z lv)
theorem ok_X1_dump_1_a1 (z : F1) (w1 : F1) (tk_a1 : kpOK w1) : kpOK (f_X1_dump_1_a1 z w1) := by
  (try simp only [f_X1_dump_1_a1]); exact (okm_X1_dump_1_10 z w1 tk_a1)
theorem ok_X1_dump_1_al (fi : Nat) (lc : Nat) (z : F1) (hg : lgOK fi lc) : lgOK (f_X1_dump_1_al_fi fi lc z) (f_X1_dump_1_al_lc lc z) := by
  (try simp only [f_X1_dump_1_al_fi, f_X1_dump_1_al_lc]); exact (okm_X1_dump_1_11 fi lc z hg)
set_option maxHeartbeats 4000000 in
set_option maxRecDepth 100000 in
theorem c_X1_dump_1 (l : Launch) (D : va_G) (ty : Nat → ClassId) (h : Nat) (aw : Nat) (al : Nat) (a0 : Nat) (a1 : Nat) (a2 : Nat) (a3 : Nat) (m1 : Nat) (t : Nat) (k : Nat) (v : Nat) (fi : Nat) (lc : Nat) (z : F1) (w1 : F1) (lt : F1) (lk : F1) (lv : F1) (T : Int32) (hg : lgOK fi lc) : MC l D ty yX1_dump cX1_dump 5 none 1 [.ref h, .int 1, .int T] [(h, ctE z aw al), (aw, waE ty a0 a1 a2 a3), (a1, whE w1 m1), (al, loE fi lc t k v), (t, arE ty 40 lt), (k, arE ty 40 lk), (v, arE ty 40 lv)] none [(h, ctE (f_X1_dump_1_h z w1) aw al), (aw, waE ty a0 a1 a2 a3), (a1, whE (f_X1_dump_1_a1 z w1) m1), (al, loE (f_X1_dump_1_al_fi fi lc z) (f_X1_dump_1_al_lc lc z) t k v), (t, arE ty 40 (f_X1_dump_1_t fi lc z lt T)), (k, arE ty 40 (f_X1_dump_1_k fi lc z lk)), (v, arE ty 40 (f_X1_dump_1_v fi lc z lv))] := by
  refine mc_v (by decide +kernel) (Nat.le_of_ble_eq_true rfl) ?_
  intro p e s m args below meth c A Q ls C hK hA X hret hl
  have hx := C.1
  have hb := C.2.1
  have hl : lv_has ls 5 [(0, .ref h), (1, .int 1), (2, .int T)] := hl
  have X : Wd D A s.heap [(h, ctE z aw al), (aw, waE ty a0 a1 a2 a3), (a1, whE w1 m1), (al, loE fi lc t k v), (t, arE ty 40 lt), (k, arE ty 40 lk), (v, arE ty 40 lv)] s.heap [] := X
  refine lv_aload_n hx hb dX1_dump_0 rfl (lv_at hl 0 rfl) ?_
  refine get_ct_4 C hK X 0 rfl fl_X1_45 dX1_dump_1 ?_
  refine lv_sipush (v := 550) hx hb dX1_dump_4 (by decide) ?_
  have J15_2 : ∀ (x1 : Int32) (ls : Array Slot) (H : Heap) (locs : List Loc), x1 = (v_X1_dump_1_1 z) → lv_has ls 5 [(0, .ref h), (1, .int 1), (2, .int T)] → Wd D A s.heap [(h, ctE z aw al), (aw, waE ty a0 a1 a2 a3), (a1, whE w1 m1), (al, loE fi lc t k v), (t, arE ty 40 lt), (k, arE ty 40 lk), (v, arE ty 40 lv)] H locs → W p l e (rmD 1) s m args below meth c H locs 0 0 Q (F0 m 15 ls [.int x1]) := by
    intro x1 ls H locs ex1 hl X
    subst ex1
    refine lv_istore_n (lv' := [(3, .int (v_X1_dump_1_1 z)), (0, .ref h), (1, .int 1), (2, .int T)]) hx hb dX1_dump_15 rfl hl (by decide) rfl (fun ls hl => ?_)
    refine lv_iload_n hx hb dX1_dump_16 rfl (lv_at hl 0 rfl) ?_
    have J83_12 : ∀ (x3 : F1) (x4 : F1) (x5 : Nat) (x6 : Nat) (x7 : F1) (x8 : F1) (x9 : F1) (ls : Array Slot) (H : Heap) (locs : List Loc), x3 = (v_X1_dump_1_3 z w1) → x4 = (v_X1_dump_1_4 z w1) → x5 = (v_X1_dump_1_5 fi lc z) → x6 = (v_X1_dump_1_6 lc z) → x7 = (v_X1_dump_1_7 fi lc z lt T) → x8 = (v_X1_dump_1_8 fi lc z lk) → x9 = (v_X1_dump_1_9 fi lc z lv) → lv_has ls 5 [(3, .int (v_X1_dump_1_1 z)), (0, .ref h), (1, .int 1), (2, .int T)] → Wd D A s.heap [(h, ctE x3 aw al), (aw, waE ty a0 a1 a2 a3), (a1, whE x4 m1), (al, loE x5 x6 t k v), (t, arE ty 40 x7), (k, arE ty 40 x8), (v, arE ty 40 x9)] H locs → W p l e (rmD 1) s m args below meth c H locs 0 0 Q (F0 m 83 ls []) := by
      intro x3 x4 x5 x6 x7 x8 x9 ls H locs ex3 ex4 ex5 ex6 ex7 ex8 ex9 hl X
      subst ex3; subst ex4; subst ex5; subst ex6; subst ex7; subst ex8; subst ex9
      refine lv_aload_n hx hb dX1_dump_83 rfl (lv_at hl 1 rfl) ?_
      refine lv_iload_n hx hb dX1_dump_84 rfl (lv_at hl 0 rfl) ?_
      refine put_ct_7 C hK X 0 rfl pl_X1_51 (dump_b _) dX1_dump_85 (fun H locs X => ?_)
      have X : Wd D A s.heap [(h, ctE (upd (v_X1_dump_1_3 z w1) 5 (v_X1_dump_1_1 z)) aw al), (aw, waE ty a0 a1 a2 a3), (a1, whE (v_X1_dump_1_4 z w1) m1), (al, loE (v_X1_dump_1_5 fi lc z) (v_X1_dump_1_6 lc z) t k v), (t, arE ty 40 (v_X1_dump_1_7 fi lc z lt T)), (k, arE ty 40 (v_X1_dump_1_8 fi lc z lk)), (v, arE ty 40 (v_X1_dump_1_9 fi lc z lv))] H locs := X
      have e_0_0 : (f_X1_dump_1_h z w1) = (upd (v_X1_dump_1_3 z w1) 5 (v_X1_dump_1_1 z)) := by first | (rw [f_X1_dump_1_h]; done) | (rw [f_X1_dump_1_h]; rfl) | (simp only [f_X1_dump_1_h]; done)
      have e_2_0 : (f_X1_dump_1_a1 z w1) = (v_X1_dump_1_4 z w1) := by first | (rw [f_X1_dump_1_a1]; done) | (rw [f_X1_dump_1_a1]; rfl) | (simp only [f_X1_dump_1_a1]; done)
      have e_3_0 : (f_X1_dump_1_al_fi fi lc z) = (v_X1_dump_1_5 fi lc z) := by first | (rw [f_X1_dump_1_al_fi]; done) | (rw [f_X1_dump_1_al_fi]; rfl) | (simp only [f_X1_dump_1_al_fi]; done)
      have e_3_1 : (f_X1_dump_1_al_lc lc z) = (v_X1_dump_1_6 lc z) := by first | (rw [f_X1_dump_1_al_lc]; done) | (rw [f_X1_dump_1_al_lc]; rfl) | (simp only [f_X1_dump_1_al_lc]; done)
      have e_4_1 : (f_X1_dump_1_t fi lc z lt T) = (v_X1_dump_1_7 fi lc z lt T) := by first | (rw [f_X1_dump_1_t]; done) | (rw [f_X1_dump_1_t]; rfl) | (simp only [f_X1_dump_1_t]; done)
      have e_5_1 : (f_X1_dump_1_k fi lc z lk) = (v_X1_dump_1_8 fi lc z lk) := by first | (rw [f_X1_dump_1_k]; done) | (rw [f_X1_dump_1_k]; rfl) | (simp only [f_X1_dump_1_k]; done)
      have e_6_1 : (f_X1_dump_1_v fi lc z lv) = (v_X1_dump_1_9 fi lc z lv) := by first | (rw [f_X1_dump_1_v]; done) | (rw [f_X1_dump_1_v]; rfl) | (simp only [f_X1_dump_1_v]; done)
      exact hret _ _ _ _ _ dX1_dump_88 X (by rw [e_0_0, e_2_0, e_3_0, e_3_1, e_4_1, e_5_1, e_6_1])
    refine lv_if_ne (tgt := 66) hx hb dX1_dump_17 (by decide) (fun c0_0 => ?_) (fun c0_0 => ?_)
    · refine lv_aload_n hx hb dX1_dump_66 rfl (lv_at hl 1 rfl) ?_
      refine get_ct_7 C hK X 0 rfl fl_X1_51 dX1_dump_67 ?_
      refine lv_if_ne (tgt := 83) hx hb dX1_dump_70 (by decide) (fun c1_1 => ?_) (fun c1_1 => ?_)
      · exact J83_12 z w1 fi lc lt lk lv _ _ _ (by first | (rw [v_X1_dump_1_3, if_neg c0_0]; done) | (rw [v_X1_dump_1_3, if_neg c0_0]; rfl) | (simp only [v_X1_dump_1_3, if_neg c0_0]; done)) (by first | (rw [v_X1_dump_1_4, if_neg c0_0]; done) | (rw [v_X1_dump_1_4, if_neg c0_0]; rfl) | (simp only [v_X1_dump_1_4, if_neg c0_0]; done)) (by first | (rw [v_X1_dump_1_5, if_neg c0_0, if_neg c1_1]; done) | (rw [v_X1_dump_1_5, if_neg c0_0, if_neg c1_1]; rfl) | (simp only [v_X1_dump_1_5, if_neg c0_0, if_neg c1_1]; done)) (by first | (rw [v_X1_dump_1_6, if_neg c0_0, if_neg c1_1]; done) | (rw [v_X1_dump_1_6, if_neg c0_0, if_neg c1_1]; rfl) | (simp only [v_X1_dump_1_6, if_neg c0_0, if_neg c1_1]; done)) (by first | (rw [v_X1_dump_1_7, if_neg c0_0, if_neg c1_1]; done) | (rw [v_X1_dump_1_7, if_neg c0_0, if_neg c1_1]; rfl) | (simp only [v_X1_dump_1_7, if_neg c0_0, if_neg c1_1]; done)) (by first | (rw [v_X1_dump_1_8, if_neg c0_0, if_neg c1_1]; done) | (rw [v_X1_dump_1_8, if_neg c0_0, if_neg c1_1]; rfl) | (simp only [v_X1_dump_1_8, if_neg c0_0, if_neg c1_1]; done)) (by first | (rw [v_X1_dump_1_9, if_neg c0_0, if_neg c1_1]; done) | (rw [v_X1_dump_1_9, if_neg c0_0, if_neg c1_1]; rfl) | (simp only [v_X1_dump_1_9, if_neg c0_0, if_neg c1_1]; done)) (lv_sub hl [0, 1, 2, 3] rfl) X
      · refine lv_aload_n hx hb dX1_dump_73 rfl (lv_at hl 1 rfl) ?_
        refine get_ct_1 C hK X 0 rfl fl_X1_21 dX1_dump_74 ?_
        refine lv_iload_n hx hb dX1_dump_77 rfl (lv_at hl 3 rfl) ?_
        refine lv_iconst (v := 2) hx hb dX1_dump_78 (by decide) ?_
        refine lv_iload_n hx hb dX1_dump_79 rfl (lv_at hl 2 rfl) ?_
        refine s_cVv (ws' := [(h, ctE z aw al), (aw, waE ty a0 a1 a2 a3), (a1, whE w1 m1), (al, loE (f_X2_add_h_fi fi lc) (f_X2_add_h_lc lc) t k v), (t, arE ty 40 (f_X2_add_t fi lc lt T)), (k, arE ty 40 (f_X2_add_k fi lc lk 2)), (v, arE ty 40 (f_X2_add_v fi lc lv 1))]) C hK hA X (c_X2_add l D ty al t k v fi lc lt lk lv T 2 1 hg) [3, 4, 5, 6] (pk_c rfl (pk_c rfl (pk_c rfl (pk_c rfl pk_n)))) rfl (pk_c rfl (pk_c rfl (pk_c rfl (pk_c rfl pk_n)))) (em_f (em_f (em_f (em_t (em_t (em_t (em_t em_n))))))) rfl ml_X2_add wm_X1_120 (q0 := 0) rfl rfl rfl ⟨Nat.le_of_ble_eq_true rfl, Nat.le_of_ble_eq_true rfl⟩ ⟨Nat.zero_le _, Nat.zero_le _⟩ hl.1 rfl (Nat.le_of_ble_eq_true rfl) dX1_dump_80 (fun H locs X => ?_)
        exact J83_12 z w1 (f_X2_add_h_fi fi lc) (f_X2_add_h_lc lc) (f_X2_add_t fi lc lt T) (f_X2_add_k fi lc lk 2) (f_X2_add_v fi lc lv 1) _ _ _ (by first | (rw [v_X1_dump_1_3, if_neg c0_0]; done) | (rw [v_X1_dump_1_3, if_neg c0_0]; rfl) | (simp only [v_X1_dump_1_3, if_neg c0_0]; done)) (by first | (rw [v_X1_dump_1_4, if_neg c0_0]; done) | (rw [v_X1_dump_1_4, if_neg c0_0]; rfl) | (simp only [v_X1_dump_1_4, if_neg c0_0]; done)) (by first | (rw [v_X1_dump_1_5, if_neg c0_0, if_pos c1_1]; done) | (rw [v_X1_dump_1_5, if_neg c0_0, if_pos c1_1]; rfl) | (simp only [v_X1_dump_1_5, if_neg c0_0, if_pos c1_1]; done)) (by first | (rw [v_X1_dump_1_6, if_neg c0_0, if_pos c1_1]; done) | (rw [v_X1_dump_1_6, if_neg c0_0, if_pos c1_1]; rfl) | (simp only [v_X1_dump_1_6, if_neg c0_0, if_pos c1_1]; done)) (by first | (rw [v_X1_dump_1_7, if_neg c0_0, if_pos c1_1]; done) | (rw [v_X1_dump_1_7, if_neg c0_0, if_pos c1_1]; rfl) | (simp only [v_X1_dump_1_7, if_neg c0_0, if_pos c1_1]; done)) (by first | (rw [v_X1_dump_1_8, if_neg c0_0, if_pos c1_1]; done) | (rw [v_X1_dump_1_8, if_neg c0_0, if_pos c1_1]; rfl) | (simp only [v_X1_dump_1_8, if_neg c0_0, if_pos c1_1]; done)) (by first | (rw [v_X1_dump_1_9, if_neg c0_0, if_pos c1_1]; done) | (rw [v_X1_dump_1_9, if_neg c0_0, if_pos c1_1]; rfl) | (simp only [v_X1_dump_1_9, if_neg c0_0, if_pos c1_1]; done)) (lv_sub hl [0, 1, 2, 3] rfl) X
    · refine lv_aload_n hx hb dX1_dump_20 rfl (lv_at hl 1 rfl) ?_
      refine get_ct_0 C hK X 0 rfl fl_X1_11 dX1_dump_21 ?_
      refine lv_iload_n hx hb dX1_dump_24 rfl (lv_at hl 2 rfl) ?_
      refine s_aald (t0 := 2) (b := a1) C hK X 1 rfl rfl (vp_in_nI (n := 1) (by decide) (by decide)) rfl dX1_dump_25 ?_
      refine get_wh_1 C hK X 2 rfl fl_X1_159 dX1_dump_26 ?_
      refine lv_bipush (v := 50) hx hb dX1_dump_29 (by decide) ?_
      refine s_mn C hl.1 wm_X1_111 (Nat.le_of_ble_eq_true rfl) (Nat.le_of_ble_eq_true rfl) ⟨Nat.zero_le _, Nat.zero_le _⟩ dX1_dump_31 ?_
      refine lv_istore (lv' := [(4, .int (mn (w1 1) 50)), (3, .int (v_X1_dump_1_1 z)), (0, .ref h), (1, .int 1), (2, .int T)]) hx hb dX1_dump_34 hl (by decide) rfl (fun ls hl => ?_)
      refine lv_aload_n hx hb dX1_dump_36 rfl (lv_at hl 2 rfl) ?_
      refine get_ct_0 C hK X 0 rfl fl_X1_11 dX1_dump_37 ?_
      refine lv_iload_n hx hb dX1_dump_40 rfl (lv_at hl 3 rfl) ?_
      refine s_aald (t0 := 2) (b := a1) C hK X 1 rfl rfl (vp_in_nI (n := 1) (by decide) (by decide)) rfl dX1_dump_41 ?_
      refine lv_dup hx hb dX1_dump_42 rfl ?_
      refine get_wh_1 C hK X 2 rfl fl_X1_159 dX1_dump_43 ?_
      refine lv_iload hx hb dX1_dump_46 (lv_at hl 0 rfl) ?_
      refine lv_isub hx hb dX1_dump_48 ?_
      refine put_wh_1 C hK X 2 rfl pl_X1_159 dX1_dump_49 (fun H locs X => ?_)
      have X : Wd D A s.heap [(h, ctE z aw al), (aw, waE ty a0 a1 a2 a3), (a1, whE (upd w1 1 ((w1 1) - (mn (w1 1) 50))) m1), (al, loE fi lc t k v), (t, arE ty 40 lt), (k, arE ty 40 lk), (v, arE ty 40 lv)] H locs := X
      refine lv_aload_n hx hb dX1_dump_52 rfl (lv_at hl 2 rfl) ?_
      refine lv_dup hx hb dX1_dump_53 rfl ?_
      refine get_ct_4 C hK X 0 rfl fl_X1_45 dX1_dump_54 ?_
      refine lv_iload hx hb dX1_dump_57 (lv_at hl 0 rfl) ?_
      refine lv_iadd hx hb dX1_dump_59 ?_
      refine put_ct_4 C hK X 0 rfl pl_X1_45 dX1_dump_60 (fun H locs X => ?_)
      have X : Wd D A s.heap [(h, ctE (upd z 1 ((z 1) + (mn (w1 1) 50))) aw al), (aw, waE ty a0 a1 a2 a3), (a1, whE (upd w1 1 ((w1 1) - (mn (w1 1) 50))) m1), (al, loE fi lc t k v), (t, arE ty 40 lt), (k, arE ty 40 lk), (v, arE ty 40 lv)] H locs := X
      refine lv_goto (tgt := 83) hx hb dX1_dump_63 (by decide) ?_
      exact J83_12 (upd z 1 ((z 1) + (mn (w1 1) 50))) (upd w1 1 ((w1 1) - (mn (w1 1) 50))) fi lc lt lk lv _ _ _ (by first | (rw [v_X1_dump_1_3, if_pos c0_0]; done) | (rw [v_X1_dump_1_3, if_pos c0_0]; rfl) | (simp only [v_X1_dump_1_3, if_pos c0_0]; done)) (by first | (rw [v_X1_dump_1_4, if_pos c0_0]; done) | (rw [v_X1_dump_1_4, if_pos c0_0]; rfl) | (simp only [v_X1_dump_1_4, if_pos c0_0]; done)) (by first | (rw [v_X1_dump_1_5, if_pos c0_0]; done) | (rw [v_X1_dump_1_5, if_pos c0_0]; rfl) | (simp only [v_X1_dump_1_5, if_pos c0_0]; done)) (by first | (rw [v_X1_dump_1_6, if_pos c0_0]; done) | (rw [v_X1_dump_1_6, if_pos c0_0]; rfl) | (simp only [v_X1_dump_1_6, if_pos c0_0]; done)) (by first | (rw [v_X1_dump_1_7, if_pos c0_0]; done) | (rw [v_X1_dump_1_7, if_pos c0_0]; rfl) | (simp only [v_X1_dump_1_7, if_pos c0_0]; done)) (by first | (rw [v_X1_dump_1_8, if_pos c0_0]; done) | (rw [v_X1_dump_1_8, if_pos c0_0]; rfl) | (simp only [v_X1_dump_1_8, if_pos c0_0]; done)) (by first | (rw [v_X1_dump_1_9, if_pos c0_0]; done) | (rw [v_X1_dump_1_9, if_pos c0_0]; rfl) | (simp only [v_X1_dump_1_9, if_pos c0_0]; done)) (lv_sub hl [1, 2, 3, 4] rfl) X
  refine lv_icmp_le (tgt := 14) hx hb dX1_dump_7 (by decide) (fun c0_0 => ?_) (fun c0_0 => ?_)
  · refine lv_iconst (v := 0) hx hb dX1_dump_14 (by decide) ?_
    exact J15_2 0 _ _ _ (by first | (rw [v_X1_dump_1_1, if_pos c0_0]; done) | (rw [v_X1_dump_1_1, if_pos c0_0]; rfl) | (simp only [v_X1_dump_1_1, if_pos c0_0]; done)) (lv_sub hl [0, 1, 2] rfl) X
  · refine lv_iconst (v := 1) hx hb dX1_dump_10 (by decide) ?_
    refine lv_goto (tgt := 15) hx hb dX1_dump_11 (by decide) ?_
    exact J15_2 1 _ _ _ (by first | (rw [v_X1_dump_1_1, if_neg c0_0]; done) | (rw [v_X1_dump_1_1, if_neg c0_0]; rfl) | (simp only [v_X1_dump_1_1, if_neg c0_0]; done)) (lv_sub hl [0, 1, 2] rfl) X
def v_X1_dump_2_1 (z : F1) : Int32 := (if (z 1) ≤ 550 then 0 else 1)
def v_X1_dump_2_3 (z : F1) (w2 : F1) : F1 := (if (v_X1_dump_2_1 z) = 0 then (upd z 1 ((z 1) + (mn (w2 1) 50))) else z)
def v_X1_dump_2_4 (z : F1) (w2 : F1) : F1 := (if (v_X1_dump_2_1 z) = 0 then (upd w2 1 ((w2 1) - (mn (w2 1) 50))) else w2)
def v_X1_dump_2_5 (fi : Nat) (lc : Nat) (z : F1) : Nat := (if (v_X1_dump_2_1 z) = 0 then fi else (if (z 5) = 0 then (f_X2_add_h_fi fi lc) else fi))
def v_X1_dump_2_6 (lc : Nat) (z : F1) : Nat := (if (v_X1_dump_2_1 z) = 0 then lc else (if (z 5) = 0 then (f_X2_add_h_lc lc) else lc))
def v_X1_dump_2_7 (fi : Nat) (lc : Nat) (z : F1) (lt : F1) (T : Int32) : F1 := (if (v_X1_dump_2_1 z) = 0 then lt else (if (z 5) = 0 then (f_X2_add_t fi lc lt T) else lt))
def v_X1_dump_2_8 (fi : Nat) (lc : Nat) (z : F1) (lk : F1) : F1 := (if (v_X1_dump_2_1 z) = 0 then lk else (if (z 5) = 0 then (f_X2_add_k fi lc lk 2) else lk))
def v_X1_dump_2_9 (fi : Nat) (lc : Nat) (z : F1) (lv : F1) : F1 := (if (v_X1_dump_2_1 z) = 0 then lv else (if (z 5) = 0 then (f_X2_add_v fi lc lv 2) else lv))
theorem okm_X1_dump_2_10 (z : F1) (w2 : F1) (tk_a2 : kpOK w2) : kpOK (v_X1_dump_2_4 z w2) := by
  by_cases k0 : (v_X1_dump_2_1 z) = 0
  · (try simp only [v_X1_dump_2_4, if_pos k0]); exact (kp_upd tk_a2)
  · by_cases k1 : (z 5) = 0
    · (try simp only [v_X1_dump_2_4, if_neg k0, if_pos k1]); exact tk_a2
    · (try simp only [v_X1_dump_2_4, if_neg k0, if_neg k1]); exact tk_a2
theorem okm_X1_dump_2_11 (fi : Nat) (lc : Nat) (z : F1) (hg : lgOK fi lc) : lgOK (v_X1_dump_2_5 fi lc z) (v_X1_dump_2_6 lc z) := by
  by_cases k0 : (v_X1_dump_2_1 z) = 0
  · (try simp only [v_X1_dump_2_5, v_X1_dump_2_6, if_pos k0]); exact hg
  · by_cases k1 : (z 5) = 0
    · (try simp only [v_X1_dump_2_5, v_X1_dump_2_6, if_neg k0, if_pos k1]); exact (ok_X2_add_h fi lc hg)
    · (try simp only [v_X1_dump_2_5, v_X1_dump_2_6, if_neg k0, if_neg k1]); exact hg
def f_X1_dump_2_h (z : F1) (w2 : F1) : F1 := (upd (v_X1_dump_2_3 z w2) 5 (v_X1_dump_2_1 z))
def f_X1_dump_2_a2 (z : F1) (w2 : F1) : F1 := (v_X1_dump_2_4 z w2)
def f_X1_dump_2_al_fi (fi : Nat) (lc : Nat) (z : F1) : Nat := (v_X1_dump_2_5 fi lc z)
def f_X1_dump_2_al_lc (lc : Nat) (z : F1) : Nat := (v_X1_dump_2_6 lc z)
def f_X1_dump_2_t (fi : Nat) (lc : Nat) (z : F1) (lt : F1) (T : Int32) : F1 := (v_X1_dump_2_7 fi lc z lt T)
def f_X1_dump_2_k (fi : Nat) (lc : Nat) (z : F1) (lk : F1) : F1 := (v_X1_dump_2_8 fi lc z lk)
def f_X1_dump_2_v (fi : Nat) (lc : Nat) (z : F1) (lv : F1) : F1 := (v_X1_dump_2_9 fi lc z lv)
theorem ok_X1_dump_2_a2 (z : F1) (w2 : F1) (tk_a2 : kpOK w2) : kpOK (f_X1_dump_2_a2 z w2) := by
  (try simp only [f_X1_dump_2_a2]); exact (okm_X1_dump_2_10 z w2 tk_a2)
theorem ok_X1_dump_2_al (fi : Nat) (lc : Nat) (z : F1) (hg : lgOK fi lc) : lgOK (f_X1_dump_2_al_fi fi lc z) (f_X1_dump_2_al_lc lc z) := by
  (try simp only [f_X1_dump_2_al_fi, f_X1_dump_2_al_lc]); exact (okm_X1_dump_2_11 fi lc z hg)
set_option maxHeartbeats 4000000 in
set_option maxRecDepth 100000 in
theorem c_X1_dump_2 (l : Launch) (D : va_G) (ty : Nat → ClassId) (h : Nat) (aw : Nat) (al : Nat) (a0 : Nat) (a1 : Nat) (a2 : Nat) (a3 : Nat) (m2 : Nat) (t : Nat) (k : Nat) (v : Nat) (fi : Nat) (lc : Nat) (z : F1) (w2 : F1) (lt : F1) (lk : F1) (lv : F1) (T : Int32) (hg : lgOK fi lc) : MC l D ty yX1_dump cX1_dump 5 none 1 [.ref h, .int 2, .int T] [(h, ctE z aw al), (aw, waE ty a0 a1 a2 a3), (a2, whE w2 m2), (al, loE fi lc t k v), (t, arE ty 40 lt), (k, arE ty 40 lk), (v, arE ty 40 lv)] none [(h, ctE (f_X1_dump_2_h z w2) aw al), (aw, waE ty a0 a1 a2 a3), (a2, whE (f_X1_dump_2_a2 z w2) m2), (al, loE (f_X1_dump_2_al_fi fi lc z) (f_X1_dump_2_al_lc lc z) t k v), (t, arE ty 40 (f_X1_dump_2_t fi lc z lt T)), (k, arE ty 40 (f_X1_dump_2_k fi lc z lk)), (v, arE ty 40 (f_X1_dump_2_v fi lc z lv))] := by
  refine mc_v (by decide +kernel) (Nat.le_of_ble_eq_true rfl) ?_
  intro p e s m args below meth c A Q ls C hK hA X hret hl
  have hx := C.1
  have hb := C.2.1
  have hl : lv_has ls 5 [(0, .ref h), (1, .int 2), (2, .int T)] := hl
  have X : Wd D A s.heap [(h, ctE z aw al), (aw, waE ty a0 a1 a2 a3), (a2, whE w2 m2), (al, loE fi lc t k v), (t, arE ty 40 lt), (k, arE ty 40 lk), (v, arE ty 40 lv)] s.heap [] := X
  refine lv_aload_n hx hb dX1_dump_0 rfl (lv_at hl 0 rfl) ?_
  refine get_ct_4 C hK X 0 rfl fl_X1_45 dX1_dump_1 ?_
  refine lv_sipush (v := 550) hx hb dX1_dump_4 (by decide) ?_
  have J15_2 : ∀ (x1 : Int32) (ls : Array Slot) (H : Heap) (locs : List Loc), x1 = (v_X1_dump_2_1 z) → lv_has ls 5 [(0, .ref h), (1, .int 2), (2, .int T)] → Wd D A s.heap [(h, ctE z aw al), (aw, waE ty a0 a1 a2 a3), (a2, whE w2 m2), (al, loE fi lc t k v), (t, arE ty 40 lt), (k, arE ty 40 lk), (v, arE ty 40 lv)] H locs → W p l e (rmD 1) s m args below meth c H locs 0 0 Q (F0 m 15 ls [.int x1]) := by
    intro x1 ls H locs ex1 hl X
    subst ex1
    refine lv_istore_n (lv' := [(3, .int (v_X1_dump_2_1 z)), (0, .ref h), (1, .int 2), (2, .int T)]) hx hb dX1_dump_15 rfl hl (by decide) rfl (fun ls hl => ?_)
    refine lv_iload_n hx hb dX1_dump_16 rfl (lv_at hl 0 rfl) ?_
    have J83_12 : ∀ (x3 : F1) (x4 : F1) (x5 : Nat) (x6 : Nat) (x7 : F1) (x8 : F1) (x9 : F1) (ls : Array Slot) (H : Heap) (locs : List Loc), x3 = (v_X1_dump_2_3 z w2) → x4 = (v_X1_dump_2_4 z w2) → x5 = (v_X1_dump_2_5 fi lc z) → x6 = (v_X1_dump_2_6 lc z) → x7 = (v_X1_dump_2_7 fi lc z lt T) → x8 = (v_X1_dump_2_8 fi lc z lk) → x9 = (v_X1_dump_2_9 fi lc z lv) → lv_has ls 5 [(3, .int (v_X1_dump_2_1 z)), (0, .ref h), (1, .int 2), (2, .int T)] → Wd D A s.heap [(h, ctE x3 aw al), (aw, waE ty a0 a1 a2 a3), (a2, whE x4 m2), (al, loE x5 x6 t k v), (t, arE ty 40 x7), (k, arE ty 40 x8), (v, arE ty 40 x9)] H locs → W p l e (rmD 1) s m args below meth c H locs 0 0 Q (F0 m 83 ls []) := by
      intro x3 x4 x5 x6 x7 x8 x9 ls H locs ex3 ex4 ex5 ex6 ex7 ex8 ex9 hl X
      subst ex3; subst ex4; subst ex5; subst ex6; subst ex7; subst ex8; subst ex9
      refine lv_aload_n hx hb dX1_dump_83 rfl (lv_at hl 1 rfl) ?_
      refine lv_iload_n hx hb dX1_dump_84 rfl (lv_at hl 0 rfl) ?_
      refine put_ct_7 C hK X 0 rfl pl_X1_51 (dump_b _) dX1_dump_85 (fun H locs X => ?_)
      have X : Wd D A s.heap [(h, ctE (upd (v_X1_dump_2_3 z w2) 5 (v_X1_dump_2_1 z)) aw al), (aw, waE ty a0 a1 a2 a3), (a2, whE (v_X1_dump_2_4 z w2) m2), (al, loE (v_X1_dump_2_5 fi lc z) (v_X1_dump_2_6 lc z) t k v), (t, arE ty 40 (v_X1_dump_2_7 fi lc z lt T)), (k, arE ty 40 (v_X1_dump_2_8 fi lc z lk)), (v, arE ty 40 (v_X1_dump_2_9 fi lc z lv))] H locs := X
      have e_0_0 : (f_X1_dump_2_h z w2) = (upd (v_X1_dump_2_3 z w2) 5 (v_X1_dump_2_1 z)) := by first | (rw [f_X1_dump_2_h]; done) | (rw [f_X1_dump_2_h]; rfl) | (simp only [f_X1_dump_2_h]; done)
      have e_2_0 : (f_X1_dump_2_a2 z w2) = (v_X1_dump_2_4 z w2) := by first | (rw [f_X1_dump_2_a2]; done) | (rw [f_X1_dump_2_a2]; rfl) | (simp only [f_X1_dump_2_a2]; done)
      have e_3_0 : (f_X1_dump_2_al_fi fi lc z) = (v_X1_dump_2_5 fi lc z) := by first | (rw [f_X1_dump_2_al_fi]; done) | (rw [f_X1_dump_2_al_fi]; rfl) | (simp only [f_X1_dump_2_al_fi]; done)
      have e_3_1 : (f_X1_dump_2_al_lc lc z) = (v_X1_dump_2_6 lc z) := by first | (rw [f_X1_dump_2_al_lc]; done) | (rw [f_X1_dump_2_al_lc]; rfl) | (simp only [f_X1_dump_2_al_lc]; done)
      have e_4_1 : (f_X1_dump_2_t fi lc z lt T) = (v_X1_dump_2_7 fi lc z lt T) := by first | (rw [f_X1_dump_2_t]; done) | (rw [f_X1_dump_2_t]; rfl) | (simp only [f_X1_dump_2_t]; done)
      have e_5_1 : (f_X1_dump_2_k fi lc z lk) = (v_X1_dump_2_8 fi lc z lk) := by first | (rw [f_X1_dump_2_k]; done) | (rw [f_X1_dump_2_k]; rfl) | (simp only [f_X1_dump_2_k]; done)
      have e_6_1 : (f_X1_dump_2_v fi lc z lv) = (v_X1_dump_2_9 fi lc z lv) := by first | (rw [f_X1_dump_2_v]; done) | (rw [f_X1_dump_2_v]; rfl) | (simp only [f_X1_dump_2_v]; done)
      exact hret _ _ _ _ _ dX1_dump_88 X (by rw [e_0_0, e_2_0, e_3_0, e_3_1, e_4_1, e_5_1, e_6_1])
    refine lv_if_ne (tgt := 66) hx hb dX1_dump_17 (by decide) (fun c0_0 => ?_) (fun c0_0 => ?_)
    · refine lv_aload_n hx hb dX1_dump_66 rfl (lv_at hl 1 rfl) ?_
      refine get_ct_7 C hK X 0 rfl fl_X1_51 dX1_dump_67 ?_
      refine lv_if_ne (tgt := 83) hx hb dX1_dump_70 (by decide) (fun c1_1 => ?_) (fun c1_1 => ?_)
      · exact J83_12 z w2 fi lc lt lk lv _ _ _ (by first | (rw [v_X1_dump_2_3, if_neg c0_0]; done) | (rw [v_X1_dump_2_3, if_neg c0_0]; rfl) | (simp only [v_X1_dump_2_3, if_neg c0_0]; done)) (by first | (rw [v_X1_dump_2_4, if_neg c0_0]; done) | (rw [v_X1_dump_2_4, if_neg c0_0]; rfl) | (simp only [v_X1_dump_2_4, if_neg c0_0]; done)) (by first | (rw [v_X1_dump_2_5, if_neg c0_0, if_neg c1_1]; done) | (rw [v_X1_dump_2_5, if_neg c0_0, if_neg c1_1]; rfl) | (simp only [v_X1_dump_2_5, if_neg c0_0, if_neg c1_1]; done)) (by first | (rw [v_X1_dump_2_6, if_neg c0_0, if_neg c1_1]; done) | (rw [v_X1_dump_2_6, if_neg c0_0, if_neg c1_1]; rfl) | (simp only [v_X1_dump_2_6, if_neg c0_0, if_neg c1_1]; done)) (by first | (rw [v_X1_dump_2_7, if_neg c0_0, if_neg c1_1]; done) | (rw [v_X1_dump_2_7, if_neg c0_0, if_neg c1_1]; rfl) | (simp only [v_X1_dump_2_7, if_neg c0_0, if_neg c1_1]; done)) (by first | (rw [v_X1_dump_2_8, if_neg c0_0, if_neg c1_1]; done) | (rw [v_X1_dump_2_8, if_neg c0_0, if_neg c1_1]; rfl) | (simp only [v_X1_dump_2_8, if_neg c0_0, if_neg c1_1]; done)) (by first | (rw [v_X1_dump_2_9, if_neg c0_0, if_neg c1_1]; done) | (rw [v_X1_dump_2_9, if_neg c0_0, if_neg c1_1]; rfl) | (simp only [v_X1_dump_2_9, if_neg c0_0, if_neg c1_1]; done)) (lv_sub hl [0, 1, 2, 3] rfl) X
      · refine lv_aload_n hx hb dX1_dump_73 rfl (lv_at hl 1 rfl) ?_
        refine get_ct_1 C hK X 0 rfl fl_X1_21 dX1_dump_74 ?_
        refine lv_iload_n hx hb dX1_dump_77 rfl (lv_at hl 3 rfl) ?_
        refine lv_iconst (v := 2) hx hb dX1_dump_78 (by decide) ?_
        refine lv_iload_n hx hb dX1_dump_79 rfl (lv_at hl 2 rfl) ?_
        refine s_cVv (ws' := [(h, ctE z aw al), (aw, waE ty a0 a1 a2 a3), (a2, whE w2 m2), (al, loE (f_X2_add_h_fi fi lc) (f_X2_add_h_lc lc) t k v), (t, arE ty 40 (f_X2_add_t fi lc lt T)), (k, arE ty 40 (f_X2_add_k fi lc lk 2)), (v, arE ty 40 (f_X2_add_v fi lc lv 2))]) C hK hA X (c_X2_add l D ty al t k v fi lc lt lk lv T 2 2 hg) [3, 4, 5, 6] (pk_c rfl (pk_c rfl (pk_c rfl (pk_c rfl pk_n)))) rfl (pk_c rfl (pk_c rfl (pk_c rfl (pk_c rfl pk_n)))) (em_f (em_f (em_f (em_t (em_t (em_t (em_t em_n))))))) rfl ml_X2_add wm_X1_120 (q0 := 0) rfl rfl rfl ⟨Nat.le_of_ble_eq_true rfl, Nat.le_of_ble_eq_true rfl⟩ ⟨Nat.zero_le _, Nat.zero_le _⟩ hl.1 rfl (Nat.le_of_ble_eq_true rfl) dX1_dump_80 (fun H locs X => ?_)
        exact J83_12 z w2 (f_X2_add_h_fi fi lc) (f_X2_add_h_lc lc) (f_X2_add_t fi lc lt T) (f_X2_add_k fi lc lk 2) (f_X2_add_v fi lc lv 2) _ _ _ (by first | (rw [v_X1_dump_2_3, if_neg c0_0]; done) | (rw [v_X1_dump_2_3, if_neg c0_0]; rfl) | (simp only [v_X1_dump_2_3, if_neg c0_0]; done)) (by first | (rw [v_X1_dump_2_4, if_neg c0_0]; done) | (rw [v_X1_dump_2_4, if_neg c0_0]; rfl) | (simp only [v_X1_dump_2_4, if_neg c0_0]; done)) (by first | (rw [v_X1_dump_2_5, if_neg c0_0, if_pos c1_1]; done) | (rw [v_X1_dump_2_5, if_neg c0_0, if_pos c1_1]; rfl) | (simp only [v_X1_dump_2_5, if_neg c0_0, if_pos c1_1]; done)) (by first | (rw [v_X1_dump_2_6, if_neg c0_0, if_pos c1_1]; done) | (rw [v_X1_dump_2_6, if_neg c0_0, if_pos c1_1]; rfl) | (simp only [v_X1_dump_2_6, if_neg c0_0, if_pos c1_1]; done)) (by first | (rw [v_X1_dump_2_7, if_neg c0_0, if_pos c1_1]; done) | (rw [v_X1_dump_2_7, if_neg c0_0, if_pos c1_1]; rfl) | (simp only [v_X1_dump_2_7, if_neg c0_0, if_pos c1_1]; done)) (by first | (rw [v_X1_dump_2_8, if_neg c0_0, if_pos c1_1]; done) | (rw [v_X1_dump_2_8, if_neg c0_0, if_pos c1_1]; rfl) | (simp only [v_X1_dump_2_8, if_neg c0_0, if_pos c1_1]; done)) (by first | (rw [v_X1_dump_2_9, if_neg c0_0, if_pos c1_1]; done) | (rw [v_X1_dump_2_9, if_neg c0_0, if_pos c1_1]; rfl) | (simp only [v_X1_dump_2_9, if_neg c0_0, if_pos c1_1]; done)) (lv_sub hl [0, 1, 2, 3] rfl) X
    · refine lv_aload_n hx hb dX1_dump_20 rfl (lv_at hl 1 rfl) ?_
      refine get_ct_0 C hK X 0 rfl fl_X1_11 dX1_dump_21 ?_
      refine lv_iload_n hx hb dX1_dump_24 rfl (lv_at hl 2 rfl) ?_
      refine s_aald (t0 := 2) (b := a2) C hK X 1 rfl rfl (vp_in_nI (n := 2) (by decide) (by decide)) rfl dX1_dump_25 ?_
      refine get_wh_1 C hK X 2 rfl fl_X1_159 dX1_dump_26 ?_
      refine lv_bipush (v := 50) hx hb dX1_dump_29 (by decide) ?_
      refine s_mn C hl.1 wm_X1_111 (Nat.le_of_ble_eq_true rfl) (Nat.le_of_ble_eq_true rfl) ⟨Nat.zero_le _, Nat.zero_le _⟩ dX1_dump_31 ?_
      refine lv_istore (lv' := [(4, .int (mn (w2 1) 50)), (3, .int (v_X1_dump_2_1 z)), (0, .ref h), (1, .int 2), (2, .int T)]) hx hb dX1_dump_34 hl (by decide) rfl (fun ls hl => ?_)
      refine lv_aload_n hx hb dX1_dump_36 rfl (lv_at hl 2 rfl) ?_
      refine get_ct_0 C hK X 0 rfl fl_X1_11 dX1_dump_37 ?_
      refine lv_iload_n hx hb dX1_dump_40 rfl (lv_at hl 3 rfl) ?_
      refine s_aald (t0 := 2) (b := a2) C hK X 1 rfl rfl (vp_in_nI (n := 2) (by decide) (by decide)) rfl dX1_dump_41 ?_
      refine lv_dup hx hb dX1_dump_42 rfl ?_
      refine get_wh_1 C hK X 2 rfl fl_X1_159 dX1_dump_43 ?_
      refine lv_iload hx hb dX1_dump_46 (lv_at hl 0 rfl) ?_
      refine lv_isub hx hb dX1_dump_48 ?_
      refine put_wh_1 C hK X 2 rfl pl_X1_159 dX1_dump_49 (fun H locs X => ?_)
      have X : Wd D A s.heap [(h, ctE z aw al), (aw, waE ty a0 a1 a2 a3), (a2, whE (upd w2 1 ((w2 1) - (mn (w2 1) 50))) m2), (al, loE fi lc t k v), (t, arE ty 40 lt), (k, arE ty 40 lk), (v, arE ty 40 lv)] H locs := X
      refine lv_aload_n hx hb dX1_dump_52 rfl (lv_at hl 2 rfl) ?_
      refine lv_dup hx hb dX1_dump_53 rfl ?_
      refine get_ct_4 C hK X 0 rfl fl_X1_45 dX1_dump_54 ?_
      refine lv_iload hx hb dX1_dump_57 (lv_at hl 0 rfl) ?_
      refine lv_iadd hx hb dX1_dump_59 ?_
      refine put_ct_4 C hK X 0 rfl pl_X1_45 dX1_dump_60 (fun H locs X => ?_)
      have X : Wd D A s.heap [(h, ctE (upd z 1 ((z 1) + (mn (w2 1) 50))) aw al), (aw, waE ty a0 a1 a2 a3), (a2, whE (upd w2 1 ((w2 1) - (mn (w2 1) 50))) m2), (al, loE fi lc t k v), (t, arE ty 40 lt), (k, arE ty 40 lk), (v, arE ty 40 lv)] H locs := X
      refine lv_goto (tgt := 83) hx hb dX1_dump_63 (by decide) ?_
      exact J83_12 (upd z 1 ((z 1) + (mn (w2 1) 50))) (upd w2 1 ((w2 1) - (mn (w2 1) 50))) fi lc lt lk lv _ _ _ (by first | (rw [v_X1_dump_2_3, if_pos c0_0]; done) | (rw [v_X1_dump_2_3, if_pos c0_0]; rfl) | (simp only [v_X1_dump_2_3, if_pos c0_0]; done)) (by first | (rw [v_X1_dump_2_4, if_pos c0_0]; done) | (rw [v_X1_dump_2_4, if_pos c0_0]; rfl) | (simp only [v_X1_dump_2_4, if_pos c0_0]; done)) (by first | (rw [v_X1_dump_2_5, if_pos c0_0]; done) | (rw [v_X1_dump_2_5, if_pos c0_0]; rfl) | (simp only [v_X1_dump_2_5, if_pos c0_0]; done)) (by first | (rw [v_X1_dump_2_6, if_pos c0_0]; done) | (rw [v_X1_dump_2_6, if_pos c0_0]; rfl) | (simp only [v_X1_dump_2_6, if_pos c0_0]; done)) (by first | (rw [v_X1_dump_2_7, if_pos c0_0]; done) | (rw [v_X1_dump_2_7, if_pos c0_0]; rfl) | (simp only [v_X1_dump_2_7, if_pos c0_0]; done)) (by first | (rw [v_X1_dump_2_8, if_pos c0_0]; done) | (rw [v_X1_dump_2_8, if_pos c0_0]; rfl) | (simp only [v_X1_dump_2_8, if_pos c0_0]; done)) (by first | (rw [v_X1_dump_2_9, if_pos c0_0]; done) | (rw [v_X1_dump_2_9, if_pos c0_0]; rfl) | (simp only [v_X1_dump_2_9, if_pos c0_0]; done)) (lv_sub hl [1, 2, 3, 4] rfl) X
  refine lv_icmp_le (tgt := 14) hx hb dX1_dump_7 (by decide) (fun c0_0 => ?_) (fun c0_0 => ?_)
  · refine lv_iconst (v := 0) hx hb dX1_dump_14 (by decide) ?_
    exact J15_2 0 _ _ _ (by first | (rw [v_X1_dump_2_1, if_pos c0_0]; done) | (rw [v_X1_dump_2_1, if_pos c0_0]; rfl) | (simp only [v_X1_dump_2_1, if_pos c0_0]; done)) (lv_sub hl [0, 1, 2] rfl) X
  · refine lv_iconst (v := 1) hx hb dX1_dump_10 (by decide) ?_
    refine lv_goto (tgt := 15) hx hb dX1_dump_11 (by decide) ?_
    exact J15_2 1 _ _ _ (by first | (rw [v_X1_dump_2_1, if_neg c0_0]; done) | (rw [v_X1_dump_2_1, if_neg c0_0]; rfl) | (simp only [v_X1_dump_2_1, if_neg c0_0]; done)) (lv_sub hl [0, 1, 2] rfl) X
def v_X1_dump_3_1 (z : F1) : Int32 := (if (z 1) ≤ 550 then 0 else 1)
def v_X1_dump_3_3 (z : F1) (w3 : F1) : F1 := (if (v_X1_dump_3_1 z) = 0 then (upd z 1 ((z 1) + (mn (w3 1) 50))) else z)
def v_X1_dump_3_4 (z : F1) (w3 : F1) : F1 := (if (v_X1_dump_3_1 z) = 0 then (upd w3 1 ((w3 1) - (mn (w3 1) 50))) else w3)
def v_X1_dump_3_5 (fi : Nat) (lc : Nat) (z : F1) : Nat := (if (v_X1_dump_3_1 z) = 0 then fi else (if (z 5) = 0 then (f_X2_add_h_fi fi lc) else fi))
def v_X1_dump_3_6 (lc : Nat) (z : F1) : Nat := (if (v_X1_dump_3_1 z) = 0 then lc else (if (z 5) = 0 then (f_X2_add_h_lc lc) else lc))
def v_X1_dump_3_7 (fi : Nat) (lc : Nat) (z : F1) (lt : F1) (T : Int32) : F1 := (if (v_X1_dump_3_1 z) = 0 then lt else (if (z 5) = 0 then (f_X2_add_t fi lc lt T) else lt))
def v_X1_dump_3_8 (fi : Nat) (lc : Nat) (z : F1) (lk : F1) : F1 := (if (v_X1_dump_3_1 z) = 0 then lk else (if (z 5) = 0 then (f_X2_add_k fi lc lk 2) else lk))
def v_X1_dump_3_9 (fi : Nat) (lc : Nat) (z : F1) (lv : F1) : F1 := (if (v_X1_dump_3_1 z) = 0 then lv else (if (z 5) = 0 then (f_X2_add_v fi lc lv 3) else lv))
theorem okm_X1_dump_3_10 (z : F1) (w3 : F1) (tk_a3 : kpOK w3) : kpOK (v_X1_dump_3_4 z w3) := by
  by_cases k0 : (v_X1_dump_3_1 z) = 0
  · (try simp only [v_X1_dump_3_4, if_pos k0]); exact (kp_upd tk_a3)
  · by_cases k1 : (z 5) = 0
    · (try simp only [v_X1_dump_3_4, if_neg k0, if_pos k1]); exact tk_a3
    · (try simp only [v_X1_dump_3_4, if_neg k0, if_neg k1]); exact tk_a3
theorem okm_X1_dump_3_11 (fi : Nat) (lc : Nat) (z : F1) (hg : lgOK fi lc) : lgOK (v_X1_dump_3_5 fi lc z) (v_X1_dump_3_6 lc z) := by
  by_cases k0 : (v_X1_dump_3_1 z) = 0
  · (try simp only [v_X1_dump_3_5, v_X1_dump_3_6, if_pos k0]); exact hg
  · by_cases k1 : (z 5) = 0
    · (try simp only [v_X1_dump_3_5, v_X1_dump_3_6, if_neg k0, if_pos k1]); exact (ok_X2_add_h fi lc hg)
    · (try simp only [v_X1_dump_3_5, v_X1_dump_3_6, if_neg k0, if_neg k1]); exact hg
def f_X1_dump_3_h (z : F1) (w3 : F1) : F1 := (upd (v_X1_dump_3_3 z w3) 5 (v_X1_dump_3_1 z))
def f_X1_dump_3_a3 (z : F1) (w3 : F1) : F1 := (v_X1_dump_3_4 z w3)
def f_X1_dump_3_al_fi (fi : Nat) (lc : Nat) (z : F1) : Nat := (v_X1_dump_3_5 fi lc z)
def f_X1_dump_3_al_lc (lc : Nat) (z : F1) : Nat := (v_X1_dump_3_6 lc z)
def f_X1_dump_3_t (fi : Nat) (lc : Nat) (z : F1) (lt : F1) (T : Int32) : F1 := (v_X1_dump_3_7 fi lc z lt T)
def f_X1_dump_3_k (fi : Nat) (lc : Nat) (z : F1) (lk : F1) : F1 := (v_X1_dump_3_8 fi lc z lk)
def f_X1_dump_3_v (fi : Nat) (lc : Nat) (z : F1) (lv : F1) : F1 := (v_X1_dump_3_9 fi lc z lv)
theorem ok_X1_dump_3_a3 (z : F1) (w3 : F1) (tk_a3 : kpOK w3) : kpOK (f_X1_dump_3_a3 z w3) := by
  (try simp only [f_X1_dump_3_a3]); exact (okm_X1_dump_3_10 z w3 tk_a3)
theorem ok_X1_dump_3_al (fi : Nat) (lc : Nat) (z : F1) (hg : lgOK fi lc) : lgOK (f_X1_dump_3_al_fi fi lc z) (f_X1_dump_3_al_lc lc z) := by
  (try simp only [f_X1_dump_3_al_fi, f_X1_dump_3_al_lc]); exact (okm_X1_dump_3_11 fi lc z hg)
set_option maxHeartbeats 4000000 in
set_option maxRecDepth 100000 in
theorem c_X1_dump_3 (l : Launch) (D : va_G) (ty : Nat → ClassId) (h : Nat) (aw : Nat) (al : Nat) (a0 : Nat) (a1 : Nat) (a2 : Nat) (a3 : Nat) (m3 : Nat) (t : Nat) (k : Nat) (v : Nat) (fi : Nat) (lc : Nat) (z : F1) (w3 : F1) (lt : F1) (lk : F1) (lv : F1) (T : Int32) (hg : lgOK fi lc) : MC l D ty yX1_dump cX1_dump 5 none 1 [.ref h, .int 3, .int T] [(h, ctE z aw al), (aw, waE ty a0 a1 a2 a3), (a3, whE w3 m3), (al, loE fi lc t k v), (t, arE ty 40 lt), (k, arE ty 40 lk), (v, arE ty 40 lv)] none [(h, ctE (f_X1_dump_3_h z w3) aw al), (aw, waE ty a0 a1 a2 a3), (a3, whE (f_X1_dump_3_a3 z w3) m3), (al, loE (f_X1_dump_3_al_fi fi lc z) (f_X1_dump_3_al_lc lc z) t k v), (t, arE ty 40 (f_X1_dump_3_t fi lc z lt T)), (k, arE ty 40 (f_X1_dump_3_k fi lc z lk)), (v, arE ty 40 (f_X1_dump_3_v fi lc z lv))] := by
  refine mc_v (by decide +kernel) (Nat.le_of_ble_eq_true rfl) ?_
  intro p e s m args below meth c A Q ls C hK hA X hret hl
  have hx := C.1
  have hb := C.2.1
  have hl : lv_has ls 5 [(0, .ref h), (1, .int 3), (2, .int T)] := hl
  have X : Wd D A s.heap [(h, ctE z aw al), (aw, waE ty a0 a1 a2 a3), (a3, whE w3 m3), (al, loE fi lc t k v), (t, arE ty 40 lt), (k, arE ty 40 lk), (v, arE ty 40 lv)] s.heap [] := X
  refine lv_aload_n hx hb dX1_dump_0 rfl (lv_at hl 0 rfl) ?_
  refine get_ct_4 C hK X 0 rfl fl_X1_45 dX1_dump_1 ?_
  refine lv_sipush (v := 550) hx hb dX1_dump_4 (by decide) ?_
  have J15_2 : ∀ (x1 : Int32) (ls : Array Slot) (H : Heap) (locs : List Loc), x1 = (v_X1_dump_3_1 z) → lv_has ls 5 [(0, .ref h), (1, .int 3), (2, .int T)] → Wd D A s.heap [(h, ctE z aw al), (aw, waE ty a0 a1 a2 a3), (a3, whE w3 m3), (al, loE fi lc t k v), (t, arE ty 40 lt), (k, arE ty 40 lk), (v, arE ty 40 lv)] H locs → W p l e (rmD 1) s m args below meth c H locs 0 0 Q (F0 m 15 ls [.int x1]) := by
    intro x1 ls H locs ex1 hl X
    subst ex1
    refine lv_istore_n (lv' := [(3, .int (v_X1_dump_3_1 z)), (0, .ref h), (1, .int 3), (2, .int T)]) hx hb dX1_dump_15 rfl hl (by decide) rfl (fun ls hl => ?_)
    refine lv_iload_n hx hb dX1_dump_16 rfl (lv_at hl 0 rfl) ?_
    have J83_12 : ∀ (x3 : F1) (x4 : F1) (x5 : Nat) (x6 : Nat) (x7 : F1) (x8 : F1) (x9 : F1) (ls : Array Slot) (H : Heap) (locs : List Loc), x3 = (v_X1_dump_3_3 z w3) → x4 = (v_X1_dump_3_4 z w3) → x5 = (v_X1_dump_3_5 fi lc z) → x6 = (v_X1_dump_3_6 lc z) → x7 = (v_X1_dump_3_7 fi lc z lt T) → x8 = (v_X1_dump_3_8 fi lc z lk) → x9 = (v_X1_dump_3_9 fi lc z lv) → lv_has ls 5 [(3, .int (v_X1_dump_3_1 z)), (0, .ref h), (1, .int 3), (2, .int T)] → Wd D A s.heap [(h, ctE x3 aw al), (aw, waE ty a0 a1 a2 a3), (a3, whE x4 m3), (al, loE x5 x6 t k v), (t, arE ty 40 x7), (k, arE ty 40 x8), (v, arE ty 40 x9)] H locs → W p l e (rmD 1) s m args below meth c H locs 0 0 Q (F0 m 83 ls []) := by
      intro x3 x4 x5 x6 x7 x8 x9 ls H locs ex3 ex4 ex5 ex6 ex7 ex8 ex9 hl X
      subst ex3; subst ex4; subst ex5; subst ex6; subst ex7; subst ex8; subst ex9
      refine lv_aload_n hx hb dX1_dump_83 rfl (lv_at hl 1 rfl) ?_
      refine lv_iload_n hx hb dX1_dump_84 rfl (lv_at hl 0 rfl) ?_
      refine put_ct_7 C hK X 0 rfl pl_X1_51 (dump_b _) dX1_dump_85 (fun H locs X => ?_)
      have X : Wd D A s.heap [(h, ctE (upd (v_X1_dump_3_3 z w3) 5 (v_X1_dump_3_1 z)) aw al), (aw, waE ty a0 a1 a2 a3), (a3, whE (v_X1_dump_3_4 z w3) m3), (al, loE (v_X1_dump_3_5 fi lc z) (v_X1_dump_3_6 lc z) t k v), (t, arE ty 40 (v_X1_dump_3_7 fi lc z lt T)), (k, arE ty 40 (v_X1_dump_3_8 fi lc z lk)), (v, arE ty 40 (v_X1_dump_3_9 fi lc z lv))] H locs := X
      have e_0_0 : (f_X1_dump_3_h z w3) = (upd (v_X1_dump_3_3 z w3) 5 (v_X1_dump_3_1 z)) := by first | (rw [f_X1_dump_3_h]; done) | (rw [f_X1_dump_3_h]; rfl) | (simp only [f_X1_dump_3_h]; done)
      have e_2_0 : (f_X1_dump_3_a3 z w3) = (v_X1_dump_3_4 z w3) := by first | (rw [f_X1_dump_3_a3]; done) | (rw [f_X1_dump_3_a3]; rfl) | (simp only [f_X1_dump_3_a3]; done)
      have e_3_0 : (f_X1_dump_3_al_fi fi lc z) = (v_X1_dump_3_5 fi lc z) := by first | (rw [f_X1_dump_3_al_fi]; done) | (rw [f_X1_dump_3_al_fi]; rfl) | (simp only [f_X1_dump_3_al_fi]; done)
      have e_3_1 : (f_X1_dump_3_al_lc lc z) = (v_X1_dump_3_6 lc z) := by first | (rw [f_X1_dump_3_al_lc]; done) | (rw [f_X1_dump_3_al_lc]; rfl) | (simp only [f_X1_dump_3_al_lc]; done)
      have e_4_1 : (f_X1_dump_3_t fi lc z lt T) = (v_X1_dump_3_7 fi lc z lt T) := by first | (rw [f_X1_dump_3_t]; done) | (rw [f_X1_dump_3_t]; rfl) | (simp only [f_X1_dump_3_t]; done)
      have e_5_1 : (f_X1_dump_3_k fi lc z lk) = (v_X1_dump_3_8 fi lc z lk) := by first | (rw [f_X1_dump_3_k]; done) | (rw [f_X1_dump_3_k]; rfl) | (simp only [f_X1_dump_3_k]; done)
      have e_6_1 : (f_X1_dump_3_v fi lc z lv) = (v_X1_dump_3_9 fi lc z lv) := by first | (rw [f_X1_dump_3_v]; done) | (rw [f_X1_dump_3_v]; rfl) | (simp only [f_X1_dump_3_v]; done)
      exact hret _ _ _ _ _ dX1_dump_88 X (by rw [e_0_0, e_2_0, e_3_0, e_3_1, e_4_1, e_5_1, e_6_1])
    refine lv_if_ne (tgt := 66) hx hb dX1_dump_17 (by decide) (fun c0_0 => ?_) (fun c0_0 => ?_)
    · refine lv_aload_n hx hb dX1_dump_66 rfl (lv_at hl 1 rfl) ?_
      refine get_ct_7 C hK X 0 rfl fl_X1_51 dX1_dump_67 ?_
      refine lv_if_ne (tgt := 83) hx hb dX1_dump_70 (by decide) (fun c1_1 => ?_) (fun c1_1 => ?_)
      · exact J83_12 z w3 fi lc lt lk lv _ _ _ (by first | (rw [v_X1_dump_3_3, if_neg c0_0]; done) | (rw [v_X1_dump_3_3, if_neg c0_0]; rfl) | (simp only [v_X1_dump_3_3, if_neg c0_0]; done)) (by first | (rw [v_X1_dump_3_4, if_neg c0_0]; done) | (rw [v_X1_dump_3_4, if_neg c0_0]; rfl) | (simp only [v_X1_dump_3_4, if_neg c0_0]; done)) (by first | (rw [v_X1_dump_3_5, if_neg c0_0, if_neg c1_1]; done) | (rw [v_X1_dump_3_5, if_neg c0_0, if_neg c1_1]; rfl) | (simp only [v_X1_dump_3_5, if_neg c0_0, if_neg c1_1]; done)) (by first | (rw [v_X1_dump_3_6, if_neg c0_0, if_neg c1_1]; done) | (rw [v_X1_dump_3_6, if_neg c0_0, if_neg c1_1]; rfl) | (simp only [v_X1_dump_3_6, if_neg c0_0, if_neg c1_1]; done)) (by first | (rw [v_X1_dump_3_7, if_neg c0_0, if_neg c1_1]; done) | (rw [v_X1_dump_3_7, if_neg c0_0, if_neg c1_1]; rfl) | (simp only [v_X1_dump_3_7, if_neg c0_0, if_neg c1_1]; done)) (by first | (rw [v_X1_dump_3_8, if_neg c0_0, if_neg c1_1]; done) | (rw [v_X1_dump_3_8, if_neg c0_0, if_neg c1_1]; rfl) | (simp only [v_X1_dump_3_8, if_neg c0_0, if_neg c1_1]; done)) (by first | (rw [v_X1_dump_3_9, if_neg c0_0, if_neg c1_1]; done) | (rw [v_X1_dump_3_9, if_neg c0_0, if_neg c1_1]; rfl) | (simp only [v_X1_dump_3_9, if_neg c0_0, if_neg c1_1]; done)) (lv_sub hl [0, 1, 2, 3] rfl) X
      · refine lv_aload_n hx hb dX1_dump_73 rfl (lv_at hl 1 rfl) ?_
        refine get_ct_1 C hK X 0 rfl fl_X1_21 dX1_dump_74 ?_
        refine lv_iload_n hx hb dX1_dump_77 rfl (lv_at hl 3 rfl) ?_
        refine lv_iconst (v := 2) hx hb dX1_dump_78 (by decide) ?_
        refine lv_iload_n hx hb dX1_dump_79 rfl (lv_at hl 2 rfl) ?_
        refine s_cVv (ws' := [(h, ctE z aw al), (aw, waE ty a0 a1 a2 a3), (a3, whE w3 m3), (al, loE (f_X2_add_h_fi fi lc) (f_X2_add_h_lc lc) t k v), (t, arE ty 40 (f_X2_add_t fi lc lt T)), (k, arE ty 40 (f_X2_add_k fi lc lk 2)), (v, arE ty 40 (f_X2_add_v fi lc lv 3))]) C hK hA X (c_X2_add l D ty al t k v fi lc lt lk lv T 2 3 hg) [3, 4, 5, 6] (pk_c rfl (pk_c rfl (pk_c rfl (pk_c rfl pk_n)))) rfl (pk_c rfl (pk_c rfl (pk_c rfl (pk_c rfl pk_n)))) (em_f (em_f (em_f (em_t (em_t (em_t (em_t em_n))))))) rfl ml_X2_add wm_X1_120 (q0 := 0) rfl rfl rfl ⟨Nat.le_of_ble_eq_true rfl, Nat.le_of_ble_eq_true rfl⟩ ⟨Nat.zero_le _, Nat.zero_le _⟩ hl.1 rfl (Nat.le_of_ble_eq_true rfl) dX1_dump_80 (fun H locs X => ?_)
        exact J83_12 z w3 (f_X2_add_h_fi fi lc) (f_X2_add_h_lc lc) (f_X2_add_t fi lc lt T) (f_X2_add_k fi lc lk 2) (f_X2_add_v fi lc lv 3) _ _ _ (by first | (rw [v_X1_dump_3_3, if_neg c0_0]; done) | (rw [v_X1_dump_3_3, if_neg c0_0]; rfl) | (simp only [v_X1_dump_3_3, if_neg c0_0]; done)) (by first | (rw [v_X1_dump_3_4, if_neg c0_0]; done) | (rw [v_X1_dump_3_4, if_neg c0_0]; rfl) | (simp only [v_X1_dump_3_4, if_neg c0_0]; done)) (by first | (rw [v_X1_dump_3_5, if_neg c0_0, if_pos c1_1]; done) | (rw [v_X1_dump_3_5, if_neg c0_0, if_pos c1_1]; rfl) | (simp only [v_X1_dump_3_5, if_neg c0_0, if_pos c1_1]; done)) (by first | (rw [v_X1_dump_3_6, if_neg c0_0, if_pos c1_1]; done) | (rw [v_X1_dump_3_6, if_neg c0_0, if_pos c1_1]; rfl) | (simp only [v_X1_dump_3_6, if_neg c0_0, if_pos c1_1]; done)) (by first | (rw [v_X1_dump_3_7, if_neg c0_0, if_pos c1_1]; done) | (rw [v_X1_dump_3_7, if_neg c0_0, if_pos c1_1]; rfl) | (simp only [v_X1_dump_3_7, if_neg c0_0, if_pos c1_1]; done)) (by first | (rw [v_X1_dump_3_8, if_neg c0_0, if_pos c1_1]; done) | (rw [v_X1_dump_3_8, if_neg c0_0, if_pos c1_1]; rfl) | (simp only [v_X1_dump_3_8, if_neg c0_0, if_pos c1_1]; done)) (by first | (rw [v_X1_dump_3_9, if_neg c0_0, if_pos c1_1]; done) | (rw [v_X1_dump_3_9, if_neg c0_0, if_pos c1_1]; rfl) | (simp only [v_X1_dump_3_9, if_neg c0_0, if_pos c1_1]; done)) (lv_sub hl [0, 1, 2, 3] rfl) X
    · refine lv_aload_n hx hb dX1_dump_20 rfl (lv_at hl 1 rfl) ?_
      refine get_ct_0 C hK X 0 rfl fl_X1_11 dX1_dump_21 ?_
      refine lv_iload_n hx hb dX1_dump_24 rfl (lv_at hl 2 rfl) ?_
      refine s_aald (t0 := 2) (b := a3) C hK X 1 rfl rfl (vp_in_nI (n := 3) (by decide) (by decide)) rfl dX1_dump_25 ?_
      refine get_wh_1 C hK X 2 rfl fl_X1_159 dX1_dump_26 ?_
      refine lv_bipush (v := 50) hx hb dX1_dump_29 (by decide) ?_
      refine s_mn C hl.1 wm_X1_111 (Nat.le_of_ble_eq_true rfl) (Nat.le_of_ble_eq_true rfl) ⟨Nat.zero_le _, Nat.zero_le _⟩ dX1_dump_31 ?_
      refine lv_istore (lv' := [(4, .int (mn (w3 1) 50)), (3, .int (v_X1_dump_3_1 z)), (0, .ref h), (1, .int 3), (2, .int T)]) hx hb dX1_dump_34 hl (by decide) rfl (fun ls hl => ?_)
      refine lv_aload_n hx hb dX1_dump_36 rfl (lv_at hl 2 rfl) ?_
      refine get_ct_0 C hK X 0 rfl fl_X1_11 dX1_dump_37 ?_
      refine lv_iload_n hx hb dX1_dump_40 rfl (lv_at hl 3 rfl) ?_
      refine s_aald (t0 := 2) (b := a3) C hK X 1 rfl rfl (vp_in_nI (n := 3) (by decide) (by decide)) rfl dX1_dump_41 ?_
      refine lv_dup hx hb dX1_dump_42 rfl ?_
      refine get_wh_1 C hK X 2 rfl fl_X1_159 dX1_dump_43 ?_
      refine lv_iload hx hb dX1_dump_46 (lv_at hl 0 rfl) ?_
      refine lv_isub hx hb dX1_dump_48 ?_
      refine put_wh_1 C hK X 2 rfl pl_X1_159 dX1_dump_49 (fun H locs X => ?_)
      have X : Wd D A s.heap [(h, ctE z aw al), (aw, waE ty a0 a1 a2 a3), (a3, whE (upd w3 1 ((w3 1) - (mn (w3 1) 50))) m3), (al, loE fi lc t k v), (t, arE ty 40 lt), (k, arE ty 40 lk), (v, arE ty 40 lv)] H locs := X
      refine lv_aload_n hx hb dX1_dump_52 rfl (lv_at hl 2 rfl) ?_
      refine lv_dup hx hb dX1_dump_53 rfl ?_
      refine get_ct_4 C hK X 0 rfl fl_X1_45 dX1_dump_54 ?_
      refine lv_iload hx hb dX1_dump_57 (lv_at hl 0 rfl) ?_
      refine lv_iadd hx hb dX1_dump_59 ?_
      refine put_ct_4 C hK X 0 rfl pl_X1_45 dX1_dump_60 (fun H locs X => ?_)
      have X : Wd D A s.heap [(h, ctE (upd z 1 ((z 1) + (mn (w3 1) 50))) aw al), (aw, waE ty a0 a1 a2 a3), (a3, whE (upd w3 1 ((w3 1) - (mn (w3 1) 50))) m3), (al, loE fi lc t k v), (t, arE ty 40 lt), (k, arE ty 40 lk), (v, arE ty 40 lv)] H locs := X
      refine lv_goto (tgt := 83) hx hb dX1_dump_63 (by decide) ?_
      exact J83_12 (upd z 1 ((z 1) + (mn (w3 1) 50))) (upd w3 1 ((w3 1) - (mn (w3 1) 50))) fi lc lt lk lv _ _ _ (by first | (rw [v_X1_dump_3_3, if_pos c0_0]; done) | (rw [v_X1_dump_3_3, if_pos c0_0]; rfl) | (simp only [v_X1_dump_3_3, if_pos c0_0]; done)) (by first | (rw [v_X1_dump_3_4, if_pos c0_0]; done) | (rw [v_X1_dump_3_4, if_pos c0_0]; rfl) | (simp only [v_X1_dump_3_4, if_pos c0_0]; done)) (by first | (rw [v_X1_dump_3_5, if_pos c0_0]; done) | (rw [v_X1_dump_3_5, if_pos c0_0]; rfl) | (simp only [v_X1_dump_3_5, if_pos c0_0]; done)) (by first | (rw [v_X1_dump_3_6, if_pos c0_0]; done) | (rw [v_X1_dump_3_6, if_pos c0_0]; rfl) | (simp only [v_X1_dump_3_6, if_pos c0_0]; done)) (by first | (rw [v_X1_dump_3_7, if_pos c0_0]; done) | (rw [v_X1_dump_3_7, if_pos c0_0]; rfl) | (simp only [v_X1_dump_3_7, if_pos c0_0]; done)) (by first | (rw [v_X1_dump_3_8, if_pos c0_0]; done) | (rw [v_X1_dump_3_8, if_pos c0_0]; rfl) | (simp only [v_X1_dump_3_8, if_pos c0_0]; done)) (by first | (rw [v_X1_dump_3_9, if_pos c0_0]; done) | (rw [v_X1_dump_3_9, if_pos c0_0]; rfl) | (simp only [v_X1_dump_3_9, if_pos c0_0]; done)) (lv_sub hl [1, 2, 3, 4] rfl) X
  refine lv_icmp_le (tgt := 14) hx hb dX1_dump_7 (by decide) (fun c0_0 => ?_) (fun c0_0 => ?_)
  · refine lv_iconst (v := 0) hx hb dX1_dump_14 (by decide) ?_
    exact J15_2 0 _ _ _ (by first | (rw [v_X1_dump_3_1, if_pos c0_0]; done) | (rw [v_X1_dump_3_1, if_pos c0_0]; rfl) | (simp only [v_X1_dump_3_1, if_pos c0_0]; done)) (lv_sub hl [0, 1, 2] rfl) X
  · refine lv_iconst (v := 1) hx hb dX1_dump_10 (by decide) ?_
    refine lv_goto (tgt := 15) hx hb dX1_dump_11 (by decide) ?_
    exact J15_2 1 _ _ _ (by first | (rw [v_X1_dump_3_1, if_neg c0_0]; done) | (rw [v_X1_dump_3_1, if_neg c0_0]; rfl) | (simp only [v_X1_dump_3_1, if_neg c0_0]; done)) (lv_sub hl [0, 1, 2] rfl) X
def v_X1_movePressures_1 (w2 : F1) (w3 : F1) (dm : Int32) : Int32 := (if (f_X1_isRearExcluded w2 w3) = 0 then dm else (mn dm 500))
def v_X1_movePressures_3 (z : F1) (w0 : F1) : F1 := (if (w0 2) = 2 then (f_X1_dump_0_h z w0) else z)
def v_X1_movePressures_4 (z : F1) (w0 : F1) (dm : Int32) : F1 := (if (w0 2) = 2 then (f_X1_dump_0_a0 z w0) else (f_X5_movePressure_h w0 dm))
def v_X1_movePressures_5 (fi : Nat) (lc : Nat) (z : F1) (w0 : F1) : Nat := (if (w0 2) = 2 then (f_X1_dump_0_al_fi fi lc z) else fi)
def v_X1_movePressures_6 (lc : Nat) (z : F1) (w0 : F1) : Nat := (if (w0 2) = 2 then (f_X1_dump_0_al_lc lc z) else lc)
def v_X1_movePressures_7 (fi : Nat) (lc : Nat) (z : F1) (w0 : F1) (lt : F1) (T : Int32) : F1 := (if (w0 2) = 2 then (f_X1_dump_0_t fi lc z lt T) else lt)
def v_X1_movePressures_8 (fi : Nat) (lc : Nat) (z : F1) (w0 : F1) (lk : F1) : F1 := (if (w0 2) = 2 then (f_X1_dump_0_k fi lc z lk) else lk)
def v_X1_movePressures_9 (fi : Nat) (lc : Nat) (z : F1) (w0 : F1) (lv : F1) : F1 := (if (w0 2) = 2 then (f_X1_dump_0_v fi lc z lv) else lv)
theorem okm_X1_movePressures_10 (z : F1) (w0 : F1) (dm : Int32) (tk_a0 : kpOK w0) : kpOK (v_X1_movePressures_4 z w0 dm) := by
  by_cases k0 : (w0 2) = 2
  · (try simp only [v_X1_movePressures_4, if_pos k0]); exact (ok_X1_dump_0_a0 z w0 tk_a0)
  · (try simp only [v_X1_movePressures_4, if_neg k0]); exact (ok_X5_movePressure_h w0 dm tk_a0)
theorem okm_X1_movePressures_11 (fi : Nat) (lc : Nat) (z : F1) (w0 : F1) (hg : lgOK fi lc) : lgOK (v_X1_movePressures_5 fi lc z w0) (v_X1_movePressures_6 lc z w0) := by
  by_cases k0 : (w0 2) = 2
  · (try simp only [v_X1_movePressures_5, v_X1_movePressures_6, if_pos k0]); exact (ok_X1_dump_0_al fi lc z hg)
  · (try simp only [v_X1_movePressures_5, v_X1_movePressures_6, if_neg k0]); exact hg
def v_X1_movePressures_13 (fi : Nat) (lc : Nat) (z : F1) (w0 : F1) : Nat := (f_X1_dump_1_al_fi (v_X1_movePressures_5 fi lc z w0) (v_X1_movePressures_6 lc z w0) (v_X1_movePressures_3 z w0))
theorem okm_X1_movePressures_14 (fi : Nat) (lc : Nat) (z : F1) (w0 : F1) (hg : lgOK fi lc) : lgOK (v_X1_movePressures_13 fi lc z w0) (f_X1_dump_1_al_lc (v_X1_movePressures_6 lc z w0) (v_X1_movePressures_3 z w0)) := by
  exact (ok_X1_dump_1_al (v_X1_movePressures_5 fi lc z w0) (v_X1_movePressures_6 lc z w0) (v_X1_movePressures_3 z w0) (okm_X1_movePressures_11 fi lc z w0 hg))
def v_X1_movePressures_15 (fi : Nat) (lc : Nat) (z : F1) (w0 : F1) (lt : F1) (T : Int32) : F1 := (f_X1_dump_1_t (v_X1_movePressures_5 fi lc z w0) (v_X1_movePressures_6 lc z w0) (v_X1_movePressures_3 z w0) (v_X1_movePressures_7 fi lc z w0 lt T) T)
def v_X1_movePressures_16 (fi : Nat) (lc : Nat) (z : F1) (w0 : F1) (lk : F1) : F1 := (f_X1_dump_1_k (v_X1_movePressures_5 fi lc z w0) (v_X1_movePressures_6 lc z w0) (v_X1_movePressures_3 z w0) (v_X1_movePressures_8 fi lc z w0 lk))
def v_X1_movePressures_17 (fi : Nat) (lc : Nat) (z : F1) (w0 : F1) (lv : F1) : F1 := (f_X1_dump_1_v (v_X1_movePressures_5 fi lc z w0) (v_X1_movePressures_6 lc z w0) (v_X1_movePressures_3 z w0) (v_X1_movePressures_9 fi lc z w0 lv))
def v_X1_movePressures_18 (z : F1) (w0 : F1) (w1 : F1) : F1 := (if (w1 2) = 2 then (f_X1_dump_1_h (v_X1_movePressures_3 z w0) w1) else (v_X1_movePressures_3 z w0))
def v_X1_movePressures_19 (z : F1) (w0 : F1) (w1 : F1) (dm : Int32) : F1 := (if (w1 2) = 2 then (f_X1_dump_1_a1 (v_X1_movePressures_3 z w0) w1) else (f_X5_movePressure_h w1 dm))
def v_X1_movePressures_20 (fi : Nat) (lc : Nat) (z : F1) (w0 : F1) (w1 : F1) : Nat := (if (w1 2) = 2 then (v_X1_movePressures_13 fi lc z w0) else (v_X1_movePressures_5 fi lc z w0))
def v_X1_movePressures_21 (lc : Nat) (z : F1) (w0 : F1) (w1 : F1) : Nat := (if (w1 2) = 2 then (f_X1_dump_1_al_lc (v_X1_movePressures_6 lc z w0) (v_X1_movePressures_3 z w0)) else (v_X1_movePressures_6 lc z w0))
def v_X1_movePressures_22 (fi : Nat) (lc : Nat) (z : F1) (w0 : F1) (w1 : F1) (lt : F1) (T : Int32) : F1 := (if (w1 2) = 2 then (v_X1_movePressures_15 fi lc z w0 lt T) else (v_X1_movePressures_7 fi lc z w0 lt T))
def v_X1_movePressures_23 (fi : Nat) (lc : Nat) (z : F1) (w0 : F1) (w1 : F1) (lk : F1) : F1 := (if (w1 2) = 2 then (v_X1_movePressures_16 fi lc z w0 lk) else (v_X1_movePressures_8 fi lc z w0 lk))
def v_X1_movePressures_24 (fi : Nat) (lc : Nat) (z : F1) (w0 : F1) (w1 : F1) (lv : F1) : F1 := (if (w1 2) = 2 then (v_X1_movePressures_17 fi lc z w0 lv) else (v_X1_movePressures_9 fi lc z w0 lv))
theorem okm_X1_movePressures_25 (z : F1) (w0 : F1) (w1 : F1) (dm : Int32) (tk_a1 : kpOK w1) : kpOK (v_X1_movePressures_19 z w0 w1 dm) := by
  by_cases k0 : (w1 2) = 2
  · (try simp only [v_X1_movePressures_19, if_pos k0]); exact (ok_X1_dump_1_a1 (v_X1_movePressures_3 z w0) w1 tk_a1)
  · (try simp only [v_X1_movePressures_19, if_neg k0]); exact (ok_X5_movePressure_h w1 dm tk_a1)
theorem okm_X1_movePressures_26 (fi : Nat) (lc : Nat) (z : F1) (w0 : F1) (w1 : F1) (hg : lgOK fi lc) : lgOK (v_X1_movePressures_20 fi lc z w0 w1) (v_X1_movePressures_21 lc z w0 w1) := by
  by_cases k0 : (w1 2) = 2
  · (try simp only [v_X1_movePressures_20, v_X1_movePressures_21, if_pos k0]); exact (okm_X1_movePressures_14 fi lc z w0 hg)
  · (try simp only [v_X1_movePressures_20, v_X1_movePressures_21, if_neg k0]); exact (okm_X1_movePressures_11 fi lc z w0 hg)
def v_X1_movePressures_28 (fi : Nat) (lc : Nat) (z : F1) (w0 : F1) (w1 : F1) : Nat := (f_X1_dump_2_al_fi (v_X1_movePressures_20 fi lc z w0 w1) (v_X1_movePressures_21 lc z w0 w1) (v_X1_movePressures_18 z w0 w1))
theorem okm_X1_movePressures_29 (fi : Nat) (lc : Nat) (z : F1) (w0 : F1) (w1 : F1) (hg : lgOK fi lc) : lgOK (v_X1_movePressures_28 fi lc z w0 w1) (f_X1_dump_2_al_lc (v_X1_movePressures_21 lc z w0 w1) (v_X1_movePressures_18 z w0 w1)) := by
  exact (ok_X1_dump_2_al (v_X1_movePressures_20 fi lc z w0 w1) (v_X1_movePressures_21 lc z w0 w1) (v_X1_movePressures_18 z w0 w1) (okm_X1_movePressures_26 fi lc z w0 w1 hg))
def v_X1_movePressures_30 (fi : Nat) (lc : Nat) (z : F1) (w0 : F1) (w1 : F1) (lt : F1) (T : Int32) : F1 := (f_X1_dump_2_t (v_X1_movePressures_20 fi lc z w0 w1) (v_X1_movePressures_21 lc z w0 w1) (v_X1_movePressures_18 z w0 w1) (v_X1_movePressures_22 fi lc z w0 w1 lt T) T)
def v_X1_movePressures_31 (fi : Nat) (lc : Nat) (z : F1) (w0 : F1) (w1 : F1) (lk : F1) : F1 := (f_X1_dump_2_k (v_X1_movePressures_20 fi lc z w0 w1) (v_X1_movePressures_21 lc z w0 w1) (v_X1_movePressures_18 z w0 w1) (v_X1_movePressures_23 fi lc z w0 w1 lk))
def v_X1_movePressures_32 (fi : Nat) (lc : Nat) (z : F1) (w0 : F1) (w1 : F1) (lv : F1) : F1 := (f_X1_dump_2_v (v_X1_movePressures_20 fi lc z w0 w1) (v_X1_movePressures_21 lc z w0 w1) (v_X1_movePressures_18 z w0 w1) (v_X1_movePressures_24 fi lc z w0 w1 lv))
def v_X1_movePressures_33 (z : F1) (w0 : F1) (w1 : F1) (w2 : F1) : F1 := (if (w2 2) = 2 then (f_X1_dump_2_h (v_X1_movePressures_18 z w0 w1) w2) else (v_X1_movePressures_18 z w0 w1))
def v_X1_movePressures_34 (z : F1) (w0 : F1) (w1 : F1) (w2 : F1) (w3 : F1) (dm : Int32) : F1 := (if (w2 2) = 2 then (f_X1_dump_2_a2 (v_X1_movePressures_18 z w0 w1) w2) else (f_X5_movePressure_h w2 (v_X1_movePressures_1 w2 w3 dm)))
def v_X1_movePressures_35 (fi : Nat) (lc : Nat) (z : F1) (w0 : F1) (w1 : F1) (w2 : F1) : Nat := (if (w2 2) = 2 then (v_X1_movePressures_28 fi lc z w0 w1) else (v_X1_movePressures_20 fi lc z w0 w1))
def v_X1_movePressures_36 (lc : Nat) (z : F1) (w0 : F1) (w1 : F1) (w2 : F1) : Nat := (if (w2 2) = 2 then (f_X1_dump_2_al_lc (v_X1_movePressures_21 lc z w0 w1) (v_X1_movePressures_18 z w0 w1)) else (v_X1_movePressures_21 lc z w0 w1))
def v_X1_movePressures_37 (fi : Nat) (lc : Nat) (z : F1) (w0 : F1) (w1 : F1) (w2 : F1) (lt : F1) (T : Int32) : F1 := (if (w2 2) = 2 then (v_X1_movePressures_30 fi lc z w0 w1 lt T) else (v_X1_movePressures_22 fi lc z w0 w1 lt T))
def v_X1_movePressures_38 (fi : Nat) (lc : Nat) (z : F1) (w0 : F1) (w1 : F1) (w2 : F1) (lk : F1) : F1 := (if (w2 2) = 2 then (v_X1_movePressures_31 fi lc z w0 w1 lk) else (v_X1_movePressures_23 fi lc z w0 w1 lk))
def v_X1_movePressures_39 (fi : Nat) (lc : Nat) (z : F1) (w0 : F1) (w1 : F1) (w2 : F1) (lv : F1) : F1 := (if (w2 2) = 2 then (v_X1_movePressures_32 fi lc z w0 w1 lv) else (v_X1_movePressures_24 fi lc z w0 w1 lv))
theorem okm_X1_movePressures_40 (z : F1) (w0 : F1) (w1 : F1) (w2 : F1) (w3 : F1) (dm : Int32) (tk_a2 : kpOK w2) : kpOK (v_X1_movePressures_34 z w0 w1 w2 w3 dm) := by
  by_cases k0 : (w2 2) = 2
  · (try simp only [v_X1_movePressures_34, if_pos k0]); exact (ok_X1_dump_2_a2 (v_X1_movePressures_18 z w0 w1) w2 tk_a2)
  · (try simp only [v_X1_movePressures_34, if_neg k0]); exact (ok_X5_movePressure_h w2 (v_X1_movePressures_1 w2 w3 dm) tk_a2)
theorem okm_X1_movePressures_41 (fi : Nat) (lc : Nat) (z : F1) (w0 : F1) (w1 : F1) (w2 : F1) (hg : lgOK fi lc) : lgOK (v_X1_movePressures_35 fi lc z w0 w1 w2) (v_X1_movePressures_36 lc z w0 w1 w2) := by
  by_cases k0 : (w2 2) = 2
  · (try simp only [v_X1_movePressures_35, v_X1_movePressures_36, if_pos k0]); exact (okm_X1_movePressures_29 fi lc z w0 w1 hg)
  · (try simp only [v_X1_movePressures_35, v_X1_movePressures_36, if_neg k0]); exact (okm_X1_movePressures_26 fi lc z w0 w1 hg)
def v_X1_movePressures_43 (fi : Nat) (lc : Nat) (z : F1) (w0 : F1) (w1 : F1) (w2 : F1) : Nat := (f_X1_dump_3_al_fi (v_X1_movePressures_35 fi lc z w0 w1 w2) (v_X1_movePressures_36 lc z w0 w1 w2) (v_X1_movePressures_33 z w0 w1 w2))
def v_X1_movePressures_44 (lc : Nat) (z : F1) (w0 : F1) (w1 : F1) (w2 : F1) : Nat := (f_X1_dump_3_al_lc (v_X1_movePressures_36 lc z w0 w1 w2) (v_X1_movePressures_33 z w0 w1 w2))
theorem okm_X1_movePressures_45 (fi : Nat) (lc : Nat) (z : F1) (w0 : F1) (w1 : F1) (w2 : F1) (hg : lgOK fi lc) : lgOK (v_X1_movePressures_43 fi lc z w0 w1 w2) (v_X1_movePressures_44 lc z w0 w1 w2) := by
  exact (ok_X1_dump_3_al (v_X1_movePressures_35 fi lc z w0 w1 w2) (v_X1_movePressures_36 lc z w0 w1 w2) (v_X1_movePressures_33 z w0 w1 w2) (okm_X1_movePressures_41 fi lc z w0 w1 w2 hg))
def v_X1_movePressures_46 (fi : Nat) (lc : Nat) (z : F1) (w0 : F1) (w1 : F1) (w2 : F1) (lt : F1) (T : Int32) : F1 := (f_X1_dump_3_t (v_X1_movePressures_35 fi lc z w0 w1 w2) (v_X1_movePressures_36 lc z w0 w1 w2) (v_X1_movePressures_33 z w0 w1 w2) (v_X1_movePressures_37 fi lc z w0 w1 w2 lt T) T)
def v_X1_movePressures_47 (fi : Nat) (lc : Nat) (z : F1) (w0 : F1) (w1 : F1) (w2 : F1) (lk : F1) : F1 := (f_X1_dump_3_k (v_X1_movePressures_35 fi lc z w0 w1 w2) (v_X1_movePressures_36 lc z w0 w1 w2) (v_X1_movePressures_33 z w0 w1 w2) (v_X1_movePressures_38 fi lc z w0 w1 w2 lk))
def v_X1_movePressures_48 (fi : Nat) (lc : Nat) (z : F1) (w0 : F1) (w1 : F1) (w2 : F1) (lv : F1) : F1 := (f_X1_dump_3_v (v_X1_movePressures_35 fi lc z w0 w1 w2) (v_X1_movePressures_36 lc z w0 w1 w2) (v_X1_movePressures_33 z w0 w1 w2) (v_X1_movePressures_39 fi lc z w0 w1 w2 lv))
def v_X1_movePressures_49 (z : F1) (w0 : F1) (w1 : F1) (w2 : F1) (w3 : F1) : F1 := (if (w3 2) = 2 then (f_X1_dump_3_h (v_X1_movePressures_33 z w0 w1 w2) w3) else (v_X1_movePressures_33 z w0 w1 w2))
def v_X1_movePressures_50 (z : F1) (w0 : F1) (w1 : F1) (w2 : F1) (w3 : F1) (dm : Int32) : F1 := (if (w3 2) = 2 then (f_X1_dump_3_a3 (v_X1_movePressures_33 z w0 w1 w2) w3) else (f_X5_movePressure_h w3 (v_X1_movePressures_1 w2 w3 dm)))
def v_X1_movePressures_51 (fi : Nat) (lc : Nat) (z : F1) (w0 : F1) (w1 : F1) (w2 : F1) (w3 : F1) : Nat := (if (w3 2) = 2 then (v_X1_movePressures_43 fi lc z w0 w1 w2) else (v_X1_movePressures_35 fi lc z w0 w1 w2))
def v_X1_movePressures_52 (lc : Nat) (z : F1) (w0 : F1) (w1 : F1) (w2 : F1) (w3 : F1) : Nat := (if (w3 2) = 2 then (v_X1_movePressures_44 lc z w0 w1 w2) else (v_X1_movePressures_36 lc z w0 w1 w2))
def v_X1_movePressures_53 (fi : Nat) (lc : Nat) (z : F1) (w0 : F1) (w1 : F1) (w2 : F1) (w3 : F1) (lt : F1) (T : Int32) : F1 := (if (w3 2) = 2 then (v_X1_movePressures_46 fi lc z w0 w1 w2 lt T) else (v_X1_movePressures_37 fi lc z w0 w1 w2 lt T))
def v_X1_movePressures_54 (fi : Nat) (lc : Nat) (z : F1) (w0 : F1) (w1 : F1) (w2 : F1) (w3 : F1) (lk : F1) : F1 := (if (w3 2) = 2 then (v_X1_movePressures_47 fi lc z w0 w1 w2 lk) else (v_X1_movePressures_38 fi lc z w0 w1 w2 lk))
def v_X1_movePressures_55 (fi : Nat) (lc : Nat) (z : F1) (w0 : F1) (w1 : F1) (w2 : F1) (w3 : F1) (lv : F1) : F1 := (if (w3 2) = 2 then (v_X1_movePressures_48 fi lc z w0 w1 w2 lv) else (v_X1_movePressures_39 fi lc z w0 w1 w2 lv))
theorem okm_X1_movePressures_56 (z : F1) (w0 : F1) (w1 : F1) (w2 : F1) (w3 : F1) (dm : Int32) (tk_a3 : kpOK w3) : kpOK (v_X1_movePressures_50 z w0 w1 w2 w3 dm) := by
  by_cases k0 : (w3 2) = 2
  · (try simp only [v_X1_movePressures_50, if_pos k0]); exact (ok_X1_dump_3_a3 (v_X1_movePressures_33 z w0 w1 w2) w3 tk_a3)
  · (try simp only [v_X1_movePressures_50, if_neg k0]); exact (ok_X5_movePressure_h w3 (v_X1_movePressures_1 w2 w3 dm) tk_a3)
theorem okm_X1_movePressures_57 (fi : Nat) (lc : Nat) (z : F1) (w0 : F1) (w1 : F1) (w2 : F1) (w3 : F1) (hg : lgOK fi lc) : lgOK (v_X1_movePressures_51 fi lc z w0 w1 w2 w3) (v_X1_movePressures_52 lc z w0 w1 w2 w3) := by
  by_cases k0 : (w3 2) = 2
  · (try simp only [v_X1_movePressures_51, v_X1_movePressures_52, if_pos k0]); exact (okm_X1_movePressures_45 fi lc z w0 w1 w2 hg)
  · (try simp only [v_X1_movePressures_51, v_X1_movePressures_52, if_neg k0]); exact (okm_X1_movePressures_41 fi lc z w0 w1 w2 hg)
def f_X1_movePressures_h (z : F1) (w0 : F1) (w1 : F1) (w2 : F1) (w3 : F1) : F1 := (v_X1_movePressures_49 z w0 w1 w2 w3)
def f_X1_movePressures_a0 (z : F1) (w0 : F1) (dm : Int32) : F1 := (v_X1_movePressures_4 z w0 dm)
def f_X1_movePressures_a1 (z : F1) (w0 : F1) (w1 : F1) (dm : Int32) : F1 := (v_X1_movePressures_19 z w0 w1 dm)
def f_X1_movePressures_a2 (z : F1) (w0 : F1) (w1 : F1) (w2 : F1) (w3 : F1) (dm : Int32) : F1 := (v_X1_movePressures_34 z w0 w1 w2 w3 dm)
def f_X1_movePressures_a3 (z : F1) (w0 : F1) (w1 : F1) (w2 : F1) (w3 : F1) (dm : Int32) : F1 := (v_X1_movePressures_50 z w0 w1 w2 w3 dm)
def f_X1_movePressures_al_fi (fi : Nat) (lc : Nat) (z : F1) (w0 : F1) (w1 : F1) (w2 : F1) (w3 : F1) : Nat := (v_X1_movePressures_51 fi lc z w0 w1 w2 w3)
def f_X1_movePressures_al_lc (lc : Nat) (z : F1) (w0 : F1) (w1 : F1) (w2 : F1) (w3 : F1) : Nat := (v_X1_movePressures_52 lc z w0 w1 w2 w3)
def f_X1_movePressures_t (fi : Nat) (lc : Nat) (z : F1) (w0 : F1) (w1 : F1) (w2 : F1) (w3 : F1) (lt : F1) (T : Int32) : F1 := (v_X1_movePressures_53 fi lc z w0 w1 w2 w3 lt T)
def f_X1_movePressures_k (fi : Nat) (lc : Nat) (z : F1) (w0 : F1) (w1 : F1) (w2 : F1) (w3 : F1) (lk : F1) : F1 := (v_X1_movePressures_54 fi lc z w0 w1 w2 w3 lk)
def f_X1_movePressures_v (fi : Nat) (lc : Nat) (z : F1) (w0 : F1) (w1 : F1) (w2 : F1) (w3 : F1) (lv : F1) : F1 := (v_X1_movePressures_55 fi lc z w0 w1 w2 w3 lv)
theorem ok_X1_movePressures_a0 (z : F1) (w0 : F1) (dm : Int32) (tk_a0 : kpOK w0) : kpOK (f_X1_movePressures_a0 z w0 dm) := by
  (try simp only [f_X1_movePressures_a0]); exact (okm_X1_movePressures_10 z w0 dm tk_a0)
theorem ok_X1_movePressures_a1 (z : F1) (w0 : F1) (w1 : F1) (dm : Int32) (tk_a1 : kpOK w1) : kpOK (f_X1_movePressures_a1 z w0 w1 dm) := by
  (try simp only [f_X1_movePressures_a1]); exact (okm_X1_movePressures_25 z w0 w1 dm tk_a1)
theorem ok_X1_movePressures_a2 (z : F1) (w0 : F1) (w1 : F1) (w2 : F1) (w3 : F1) (dm : Int32) (tk_a2 : kpOK w2) : kpOK (f_X1_movePressures_a2 z w0 w1 w2 w3 dm) := by
  (try simp only [f_X1_movePressures_a2]); exact (okm_X1_movePressures_40 z w0 w1 w2 w3 dm tk_a2)
theorem ok_X1_movePressures_a3 (z : F1) (w0 : F1) (w1 : F1) (w2 : F1) (w3 : F1) (dm : Int32) (tk_a3 : kpOK w3) : kpOK (f_X1_movePressures_a3 z w0 w1 w2 w3 dm) := by
  (try simp only [f_X1_movePressures_a3]); exact (okm_X1_movePressures_56 z w0 w1 w2 w3 dm tk_a3)
theorem ok_X1_movePressures_al (fi : Nat) (lc : Nat) (z : F1) (w0 : F1) (w1 : F1) (w2 : F1) (w3 : F1) (hg : lgOK fi lc) : lgOK (f_X1_movePressures_al_fi fi lc z w0 w1 w2 w3) (f_X1_movePressures_al_lc lc z w0 w1 w2 w3) := by
  (try simp only [f_X1_movePressures_al_fi, f_X1_movePressures_al_lc]); exact (okm_X1_movePressures_57 fi lc z w0 w1 w2 w3 hg)
set_option maxHeartbeats 4000000 in
set_option maxRecDepth 100000 in
theorem c_X1_movePressures (l : Launch) (D : va_G) (ty : Nat → ClassId) (h : Nat) (aw : Nat) (al : Nat) (a0 : Nat) (a1 : Nat) (a2 : Nat) (a3 : Nat) (m0 : Nat) (m1 : Nat) (m2 : Nat) (m3 : Nat) (t : Nat) (k : Nat) (v : Nat) (fi : Nat) (lc : Nat) (z : F1) (w0 : F1) (w1 : F1) (w2 : F1) (w3 : F1) (lt : F1) (lk : F1) (lv : F1) (T : Int32) (dm : Int32) (hg : lgOK fi lc) : MC l D ty yX1_movePressures cX1_movePressures 5 none 2 [.ref h, .int T, .int dm] [(h, ctE z aw al), (aw, waE ty a0 a1 a2 a3), (a0, whE w0 m0), (a1, whE w1 m1), (a2, whE w2 m2), (a3, whE w3 m3), (al, loE fi lc t k v), (t, arE ty 40 lt), (k, arE ty 40 lk), (v, arE ty 40 lv)] none [(h, ctE (f_X1_movePressures_h z w0 w1 w2 w3) aw al), (aw, waE ty a0 a1 a2 a3), (a0, whE (f_X1_movePressures_a0 z w0 dm) m0), (a1, whE (f_X1_movePressures_a1 z w0 w1 dm) m1), (a2, whE (f_X1_movePressures_a2 z w0 w1 w2 w3 dm) m2), (a3, whE (f_X1_movePressures_a3 z w0 w1 w2 w3 dm) m3), (al, loE (f_X1_movePressures_al_fi fi lc z w0 w1 w2 w3) (f_X1_movePressures_al_lc lc z w0 w1 w2 w3) t k v), (t, arE ty 40 (f_X1_movePressures_t fi lc z w0 w1 w2 w3 lt T)), (k, arE ty 40 (f_X1_movePressures_k fi lc z w0 w1 w2 w3 lk)), (v, arE ty 40 (f_X1_movePressures_v fi lc z w0 w1 w2 w3 lv))] := by
  refine mc_v (by decide +kernel) (Nat.le_of_ble_eq_true rfl) ?_
  intro p e s m args below meth c A Q ls C hK hA X hret hl
  have hx := C.1
  have hb := C.2.1
  have hl : lv_has ls 5 [(0, .ref h), (1, .int T), (2, .int dm)] := hl
  have X : Wd D A s.heap [(h, ctE z aw al), (aw, waE ty a0 a1 a2 a3), (a0, whE w0 m0), (a1, whE w1 m1), (a2, whE w2 m2), (a3, whE w3 m3), (al, loE fi lc t k v), (t, arE ty 40 lt), (k, arE ty 40 lk), (v, arE ty 40 lv)] s.heap [] := X
  refine lv_aload_n hx hb dX1_movePressures_0 rfl (lv_at hl 0 rfl) ?_
  refine s_cV0i C hK hA X (c_X1_isRearExcluded l D ty h aw al a0 a1 a2 a3 m0 m1 m2 m3 z w0 w1 w2 w3) [0, 1, 2, 3, 4, 5] (pk_c rfl (pk_c rfl (pk_c rfl (pk_c rfl (pk_c rfl (pk_c rfl pk_n)))))) rfl ml_X1_isRearExcluded wm_X1_132 (q0 := 0) rfl rfl rfl ⟨Nat.le_of_ble_eq_true rfl, Nat.le_of_ble_eq_true rfl⟩ ⟨Nat.zero_le _, Nat.zero_le _⟩ hl.1 rfl (Nat.le_of_ble_eq_true rfl) dX1_movePressures_1 (fun H locs X => ?_)
  have J18_2 : ∀ (x1 : Int32) (ls : Array Slot) (H : Heap) (locs : List Loc), x1 = (v_X1_movePressures_1 w2 w3 dm) → lv_has ls 5 [(0, .ref h), (1, .int T), (2, .int dm)] → Wd D A s.heap [(h, ctE z aw al), (aw, waE ty a0 a1 a2 a3), (a0, whE w0 m0), (a1, whE w1 m1), (a2, whE w2 m2), (a3, whE w3 m3), (al, loE fi lc t k v), (t, arE ty 40 lt), (k, arE ty 40 lk), (v, arE ty 40 lv)] H locs → W p l e (rmD 2) s m args below meth c H locs 0 0 Q (F0 m 18 ls [.int x1]) := by
    intro x1 ls H locs ex1 hl X
    subst ex1
    refine lv_istore_n (lv' := [(3, .int (v_X1_movePressures_1 w2 w3 dm)), (0, .ref h), (1, .int T), (2, .int dm)]) hx hb dX1_movePressures_18 rfl hl (by decide) rfl (fun ls hl => ?_)
    refine lv_iconst (v := 0) hx hb dX1_movePressures_19 (by decide) ?_
    refine lv_istore (lv' := [(4, .int 0), (3, .int (v_X1_movePressures_1 w2 w3 dm)), (0, .ref h), (1, .int T), (2, .int dm)]) hx hb dX1_movePressures_20 hl (by decide) rfl (fun ls hl => ?_)
    refine lv_iload hx hb dX1_movePressures_22 (lv_at hl 0 rfl) ?_
    refine lv_iconst (v := 4) hx hb dX1_movePressures_24 (by decide) ?_
    refine lv_icmp_ge (tgt := 79) hx hb dX1_movePressures_25 (by decide) (fun c0 => absurd c0 (by decide)) (fun _ => ?_)
    refine lv_aload_n hx hb dX1_movePressures_28 rfl (lv_at hl 2 rfl) ?_
    refine get_ct_0 C hK X 0 rfl fl_X1_11 dX1_movePressures_29 ?_
    refine lv_iload hx hb dX1_movePressures_32 (lv_at hl 0 rfl) ?_
    refine s_aald (t0 := 2) (b := a0) C hK X 1 rfl rfl (vp_in_nI (n := 0) (by decide) (by decide)) rfl dX1_movePressures_34 ?_
    refine get_wh_2 C hK X 2 rfl fl_X1_156 dX1_movePressures_35 ?_
    refine lv_iconst (v := 2) hx hb dX1_movePressures_38 (by decide) ?_
    have J73_12 : ∀ (x3 : F1) (x4 : F1) (x5 : Nat) (x6 : Nat) (x7 : F1) (x8 : F1) (x9 : F1) (ls : Array Slot) (H : Heap) (locs : List Loc), x3 = (v_X1_movePressures_3 z w0) → x4 = (v_X1_movePressures_4 z w0 dm) → x5 = (v_X1_movePressures_5 fi lc z w0) → x6 = (v_X1_movePressures_6 lc z w0) → x7 = (v_X1_movePressures_7 fi lc z w0 lt T) → x8 = (v_X1_movePressures_8 fi lc z w0 lk) → x9 = (v_X1_movePressures_9 fi lc z w0 lv) → lv_has ls 5 [(4, .int 0), (3, .int (v_X1_movePressures_1 w2 w3 dm)), (0, .ref h), (1, .int T), (2, .int dm)] → Wd D A s.heap [(h, ctE x3 aw al), (aw, waE ty a0 a1 a2 a3), (a0, whE x4 m0), (a1, whE w1 m1), (a2, whE w2 m2), (a3, whE w3 m3), (al, loE x5 x6 t k v), (t, arE ty 40 x7), (k, arE ty 40 x8), (v, arE ty 40 x9)] H locs → W p l e (rmD 2) s m args below meth c H locs 0 0 Q (F0 m 73 ls []) := by
      intro x3 x4 x5 x6 x7 x8 x9 ls H locs ex3 ex4 ex5 ex6 ex7 ex8 ex9 hl X
      subst ex3; subst ex4; subst ex5; subst ex6; subst ex7; subst ex8; subst ex9
      refine lv_iinc (v := 1) (lv' := [(4, .int 1), (3, .int (v_X1_movePressures_1 w2 w3 dm)), (0, .ref h), (1, .int T), (2, .int dm)]) hx hb dX1_movePressures_73 hl (k := 0) rfl (by decide) (by decide) rfl (fun ls hl => ?_)
      refine lv_goto (tgt := 22) hx hb dX1_movePressures_76 (by decide) ?_
      refine lv_iload hx hb dX1_movePressures_22 (lv_at hl 0 rfl) ?_
      refine lv_iconst (v := 4) hx hb dX1_movePressures_24 (by decide) ?_
      refine lv_icmp_ge (tgt := 79) hx hb dX1_movePressures_25 (by decide) (fun c0 => absurd c0 (by decide)) (fun _ => ?_)
      refine lv_aload_n hx hb dX1_movePressures_28 rfl (lv_at hl 2 rfl) ?_
      refine get_ct_0 C hK X 0 rfl fl_X1_11 dX1_movePressures_29 ?_
      refine lv_iload hx hb dX1_movePressures_32 (lv_at hl 0 rfl) ?_
      refine s_aald (t0 := 2) (b := a1) C hK X 1 rfl rfl (vp_in_nI (n := 1) (by decide) (by decide)) rfl dX1_movePressures_34 ?_
      refine get_wh_2 C hK X 3 rfl fl_X1_156 dX1_movePressures_35 ?_
      refine lv_iconst (v := 2) hx hb dX1_movePressures_38 (by decide) ?_
      have J73_27 : ∀ (x18 : F1) (x19 : F1) (x20 : Nat) (x21 : Nat) (x22 : F1) (x23 : F1) (x24 : F1) (ls : Array Slot) (H : Heap) (locs : List Loc), x18 = (v_X1_movePressures_18 z w0 w1) → x19 = (v_X1_movePressures_19 z w0 w1 dm) → x20 = (v_X1_movePressures_20 fi lc z w0 w1) → x21 = (v_X1_movePressures_21 lc z w0 w1) → x22 = (v_X1_movePressures_22 fi lc z w0 w1 lt T) → x23 = (v_X1_movePressures_23 fi lc z w0 w1 lk) → x24 = (v_X1_movePressures_24 fi lc z w0 w1 lv) → lv_has ls 5 [(4, .int 1), (3, .int (v_X1_movePressures_1 w2 w3 dm)), (0, .ref h), (1, .int T), (2, .int dm)] → Wd D A s.heap [(h, ctE x18 aw al), (aw, waE ty a0 a1 a2 a3), (a0, whE (v_X1_movePressures_4 z w0 dm) m0), (a1, whE x19 m1), (a2, whE w2 m2), (a3, whE w3 m3), (al, loE x20 x21 t k v), (t, arE ty 40 x22), (k, arE ty 40 x23), (v, arE ty 40 x24)] H locs → W p l e (rmD 2) s m args below meth c H locs 0 0 Q (F0 m 73 ls []) := by
        intro x18 x19 x20 x21 x22 x23 x24 ls H locs ex18 ex19 ex20 ex21 ex22 ex23 ex24 hl X
        subst ex18; subst ex19; subst ex20; subst ex21; subst ex22; subst ex23; subst ex24
        refine lv_iinc (v := 2) (lv' := [(4, .int 2), (3, .int (v_X1_movePressures_1 w2 w3 dm)), (0, .ref h), (1, .int T), (2, .int dm)]) hx hb dX1_movePressures_73 hl (k := 0) rfl (by decide) (by decide) rfl (fun ls hl => ?_)
        refine lv_goto (tgt := 22) hx hb dX1_movePressures_76 (by decide) ?_
        refine lv_iload hx hb dX1_movePressures_22 (lv_at hl 0 rfl) ?_
        refine lv_iconst (v := 4) hx hb dX1_movePressures_24 (by decide) ?_
        refine lv_icmp_ge (tgt := 79) hx hb dX1_movePressures_25 (by decide) (fun c0 => absurd c0 (by decide)) (fun _ => ?_)
        refine lv_aload_n hx hb dX1_movePressures_28 rfl (lv_at hl 2 rfl) ?_
        refine get_ct_0 C hK X 0 rfl fl_X1_11 dX1_movePressures_29 ?_
        refine lv_iload hx hb dX1_movePressures_32 (lv_at hl 0 rfl) ?_
        refine s_aald (t0 := 2) (b := a2) C hK X 1 rfl rfl (vp_in_nI (n := 2) (by decide) (by decide)) rfl dX1_movePressures_34 ?_
        refine get_wh_2 C hK X 4 rfl fl_X1_156 dX1_movePressures_35 ?_
        refine lv_iconst (v := 2) hx hb dX1_movePressures_38 (by decide) ?_
        have J73_42 : ∀ (x33 : F1) (x34 : F1) (x35 : Nat) (x36 : Nat) (x37 : F1) (x38 : F1) (x39 : F1) (ls : Array Slot) (H : Heap) (locs : List Loc), x33 = (v_X1_movePressures_33 z w0 w1 w2) → x34 = (v_X1_movePressures_34 z w0 w1 w2 w3 dm) → x35 = (v_X1_movePressures_35 fi lc z w0 w1 w2) → x36 = (v_X1_movePressures_36 lc z w0 w1 w2) → x37 = (v_X1_movePressures_37 fi lc z w0 w1 w2 lt T) → x38 = (v_X1_movePressures_38 fi lc z w0 w1 w2 lk) → x39 = (v_X1_movePressures_39 fi lc z w0 w1 w2 lv) → lv_has ls 5 [(4, .int 2), (3, .int (v_X1_movePressures_1 w2 w3 dm)), (0, .ref h), (1, .int T), (2, .int dm)] → Wd D A s.heap [(h, ctE x33 aw al), (aw, waE ty a0 a1 a2 a3), (a0, whE (v_X1_movePressures_4 z w0 dm) m0), (a1, whE (v_X1_movePressures_19 z w0 w1 dm) m1), (a2, whE x34 m2), (a3, whE w3 m3), (al, loE x35 x36 t k v), (t, arE ty 40 x37), (k, arE ty 40 x38), (v, arE ty 40 x39)] H locs → W p l e (rmD 2) s m args below meth c H locs 0 0 Q (F0 m 73 ls []) := by
          intro x33 x34 x35 x36 x37 x38 x39 ls H locs ex33 ex34 ex35 ex36 ex37 ex38 ex39 hl X
          subst ex33; subst ex34; subst ex35; subst ex36; subst ex37; subst ex38; subst ex39
          refine lv_iinc (v := 3) (lv' := [(4, .int 3), (3, .int (v_X1_movePressures_1 w2 w3 dm)), (0, .ref h), (1, .int T), (2, .int dm)]) hx hb dX1_movePressures_73 hl (k := 0) rfl (by decide) (by decide) rfl (fun ls hl => ?_)
          refine lv_goto (tgt := 22) hx hb dX1_movePressures_76 (by decide) ?_
          refine lv_iload hx hb dX1_movePressures_22 (lv_at hl 0 rfl) ?_
          refine lv_iconst (v := 4) hx hb dX1_movePressures_24 (by decide) ?_
          refine lv_icmp_ge (tgt := 79) hx hb dX1_movePressures_25 (by decide) (fun c0 => absurd c0 (by decide)) (fun _ => ?_)
          refine lv_aload_n hx hb dX1_movePressures_28 rfl (lv_at hl 2 rfl) ?_
          refine get_ct_0 C hK X 0 rfl fl_X1_11 dX1_movePressures_29 ?_
          refine lv_iload hx hb dX1_movePressures_32 (lv_at hl 0 rfl) ?_
          refine s_aald (t0 := 2) (b := a3) C hK X 1 rfl rfl (vp_in_nI (n := 3) (by decide) (by decide)) rfl dX1_movePressures_34 ?_
          refine get_wh_2 C hK X 5 rfl fl_X1_156 dX1_movePressures_35 ?_
          refine lv_iconst (v := 2) hx hb dX1_movePressures_38 (by decide) ?_
          have J73_58 : ∀ (x49 : F1) (x50 : F1) (x51 : Nat) (x52 : Nat) (x53 : F1) (x54 : F1) (x55 : F1) (ls : Array Slot) (H : Heap) (locs : List Loc), x49 = (v_X1_movePressures_49 z w0 w1 w2 w3) → x50 = (v_X1_movePressures_50 z w0 w1 w2 w3 dm) → x51 = (v_X1_movePressures_51 fi lc z w0 w1 w2 w3) → x52 = (v_X1_movePressures_52 lc z w0 w1 w2 w3) → x53 = (v_X1_movePressures_53 fi lc z w0 w1 w2 w3 lt T) → x54 = (v_X1_movePressures_54 fi lc z w0 w1 w2 w3 lk) → x55 = (v_X1_movePressures_55 fi lc z w0 w1 w2 w3 lv) → lv_has ls 5 [(4, .int 3), (3, .int (v_X1_movePressures_1 w2 w3 dm)), (0, .ref h), (1, .int T), (2, .int dm)] → Wd D A s.heap [(h, ctE x49 aw al), (aw, waE ty a0 a1 a2 a3), (a0, whE (v_X1_movePressures_4 z w0 dm) m0), (a1, whE (v_X1_movePressures_19 z w0 w1 dm) m1), (a2, whE (v_X1_movePressures_34 z w0 w1 w2 w3 dm) m2), (a3, whE x50 m3), (al, loE x51 x52 t k v), (t, arE ty 40 x53), (k, arE ty 40 x54), (v, arE ty 40 x55)] H locs → W p l e (rmD 2) s m args below meth c H locs 0 0 Q (F0 m 73 ls []) := by
            intro x49 x50 x51 x52 x53 x54 x55 ls H locs ex49 ex50 ex51 ex52 ex53 ex54 ex55 hl X
            subst ex49; subst ex50; subst ex51; subst ex52; subst ex53; subst ex54; subst ex55
            refine lv_iinc (v := 4) (lv' := [(4, .int 4), (3, .int (v_X1_movePressures_1 w2 w3 dm)), (0, .ref h), (1, .int T), (2, .int dm)]) hx hb dX1_movePressures_73 hl (k := 0) rfl (by decide) (by decide) rfl (fun ls hl => ?_)
            refine lv_goto (tgt := 22) hx hb dX1_movePressures_76 (by decide) ?_
            refine lv_iload hx hb dX1_movePressures_22 (lv_at hl 0 rfl) ?_
            refine lv_iconst (v := 4) hx hb dX1_movePressures_24 (by decide) ?_
            refine lv_icmp_ge (tgt := 79) hx hb dX1_movePressures_25 (by decide) (fun _ => ?_) (fun c0 => absurd (by decide) c0)
            have e_0_0 : (f_X1_movePressures_h z w0 w1 w2 w3) = (v_X1_movePressures_49 z w0 w1 w2 w3) := by first | (rw [f_X1_movePressures_h]; done) | (rw [f_X1_movePressures_h]; rfl) | (simp only [f_X1_movePressures_h]; done)
            have e_2_0 : (f_X1_movePressures_a0 z w0 dm) = (v_X1_movePressures_4 z w0 dm) := by first | (rw [f_X1_movePressures_a0]; done) | (rw [f_X1_movePressures_a0]; rfl) | (simp only [f_X1_movePressures_a0]; done)
            have e_3_0 : (f_X1_movePressures_a1 z w0 w1 dm) = (v_X1_movePressures_19 z w0 w1 dm) := by first | (rw [f_X1_movePressures_a1]; done) | (rw [f_X1_movePressures_a1]; rfl) | (simp only [f_X1_movePressures_a1]; done)
            have e_4_0 : (f_X1_movePressures_a2 z w0 w1 w2 w3 dm) = (v_X1_movePressures_34 z w0 w1 w2 w3 dm) := by first | (rw [f_X1_movePressures_a2]; done) | (rw [f_X1_movePressures_a2]; rfl) | (simp only [f_X1_movePressures_a2]; done)
            have e_5_0 : (f_X1_movePressures_a3 z w0 w1 w2 w3 dm) = (v_X1_movePressures_50 z w0 w1 w2 w3 dm) := by first | (rw [f_X1_movePressures_a3]; done) | (rw [f_X1_movePressures_a3]; rfl) | (simp only [f_X1_movePressures_a3]; done)
            have e_6_0 : (f_X1_movePressures_al_fi fi lc z w0 w1 w2 w3) = (v_X1_movePressures_51 fi lc z w0 w1 w2 w3) := by first | (rw [f_X1_movePressures_al_fi]; done) | (rw [f_X1_movePressures_al_fi]; rfl) | (simp only [f_X1_movePressures_al_fi]; done)
            have e_6_1 : (f_X1_movePressures_al_lc lc z w0 w1 w2 w3) = (v_X1_movePressures_52 lc z w0 w1 w2 w3) := by first | (rw [f_X1_movePressures_al_lc]; done) | (rw [f_X1_movePressures_al_lc]; rfl) | (simp only [f_X1_movePressures_al_lc]; done)
            have e_7_1 : (f_X1_movePressures_t fi lc z w0 w1 w2 w3 lt T) = (v_X1_movePressures_53 fi lc z w0 w1 w2 w3 lt T) := by first | (rw [f_X1_movePressures_t]; done) | (rw [f_X1_movePressures_t]; rfl) | (simp only [f_X1_movePressures_t]; done)
            have e_8_1 : (f_X1_movePressures_k fi lc z w0 w1 w2 w3 lk) = (v_X1_movePressures_54 fi lc z w0 w1 w2 w3 lk) := by first | (rw [f_X1_movePressures_k]; done) | (rw [f_X1_movePressures_k]; rfl) | (simp only [f_X1_movePressures_k]; done)
            have e_9_1 : (f_X1_movePressures_v fi lc z w0 w1 w2 w3 lv) = (v_X1_movePressures_55 fi lc z w0 w1 w2 w3 lv) := by first | (rw [f_X1_movePressures_v]; done) | (rw [f_X1_movePressures_v]; rfl) | (simp only [f_X1_movePressures_v]; done)
            exact hret _ _ _ _ _ dX1_movePressures_79 X (by rw [e_0_0, e_2_0, e_3_0, e_4_0, e_5_0, e_6_0, e_6_1, e_7_1, e_8_1, e_9_1])
          refine lv_icmp_ne (tgt := 52) hx hb dX1_movePressures_39 (by decide) (fun c0_0 => ?_) (fun c0_0 => ?_)
          · refine lv_aload_n hx hb dX1_movePressures_52 rfl (lv_at hl 2 rfl) ?_
            refine get_ct_0 C hK X 0 rfl fl_X1_11 dX1_movePressures_53 ?_
            refine lv_iload hx hb dX1_movePressures_56 (lv_at hl 0 rfl) ?_
            refine s_aald (t0 := 2) (b := a3) C hK X 1 rfl rfl (vp_in_nI (n := 3) (by decide) (by decide)) rfl dX1_movePressures_58 ?_
            refine lv_iload hx hb dX1_movePressures_59 (lv_at hl 0 rfl) ?_
            refine lv_iconst (v := 2) hx hb dX1_movePressures_61 (by decide) ?_
            refine lv_icmp_ge (tgt := 69) hx hb dX1_movePressures_62 (by decide) (fun _ => ?_) (fun c0 => absurd (by decide) c0)
            refine lv_iload_n hx hb dX1_movePressures_69 rfl (lv_at hl 1 rfl) ?_
            refine s_cVv (ws' := [(h, ctE (v_X1_movePressures_33 z w0 w1 w2) aw al), (aw, waE ty a0 a1 a2 a3), (a0, whE (v_X1_movePressures_4 z w0 dm) m0), (a1, whE (v_X1_movePressures_19 z w0 w1 dm) m1), (a2, whE (v_X1_movePressures_34 z w0 w1 w2 w3 dm) m2), (a3, whE (f_X5_movePressure_h w3 (v_X1_movePressures_1 w2 w3 dm)) m3), (al, loE (v_X1_movePressures_35 fi lc z w0 w1 w2) (v_X1_movePressures_36 lc z w0 w1 w2) t k v), (t, arE ty 40 (v_X1_movePressures_37 fi lc z w0 w1 w2 lt T)), (k, arE ty 40 (v_X1_movePressures_38 fi lc z w0 w1 w2 lk)), (v, arE ty 40 (v_X1_movePressures_39 fi lc z w0 w1 w2 lv))]) C hK hA X (c_X5_movePressure l D ty a3 m3 w3 (v_X1_movePressures_1 w2 w3 dm)) [5] (pk_c rfl pk_n) rfl (pk_c rfl pk_n) (em_f (em_f (em_f (em_f (em_f (em_t (em_f (em_f (em_f (em_f em_n)))))))))) rfl ml_X5_movePressure wm_X1_171 (q0 := 0) rfl rfl rfl ⟨Nat.le_of_ble_eq_true rfl, Nat.le_of_ble_eq_true rfl⟩ ⟨Nat.zero_le _, Nat.zero_le _⟩ hl.1 rfl (Nat.le_of_ble_eq_true rfl) dX1_movePressures_70 (fun H locs X => ?_)
            exact J73_58 (v_X1_movePressures_33 z w0 w1 w2) (f_X5_movePressure_h w3 (v_X1_movePressures_1 w2 w3 dm)) (v_X1_movePressures_35 fi lc z w0 w1 w2) (v_X1_movePressures_36 lc z w0 w1 w2) (v_X1_movePressures_37 fi lc z w0 w1 w2 lt T) (v_X1_movePressures_38 fi lc z w0 w1 w2 lk) (v_X1_movePressures_39 fi lc z w0 w1 w2 lv) _ _ _ (by first | (rw [v_X1_movePressures_49, if_neg c0_0]; done) | (rw [v_X1_movePressures_49, if_neg c0_0]; rfl) | (simp only [v_X1_movePressures_49, if_neg c0_0]; done)) (by first | (rw [v_X1_movePressures_50, if_neg c0_0]; done) | (rw [v_X1_movePressures_50, if_neg c0_0]; rfl) | (simp only [v_X1_movePressures_50, if_neg c0_0]; done)) (by first | (rw [v_X1_movePressures_51, if_neg c0_0]; done) | (rw [v_X1_movePressures_51, if_neg c0_0]; rfl) | (simp only [v_X1_movePressures_51, if_neg c0_0]; done)) (by first | (rw [v_X1_movePressures_52, if_neg c0_0]; done) | (rw [v_X1_movePressures_52, if_neg c0_0]; rfl) | (simp only [v_X1_movePressures_52, if_neg c0_0]; done)) (by first | (rw [v_X1_movePressures_53, if_neg c0_0]; done) | (rw [v_X1_movePressures_53, if_neg c0_0]; rfl) | (simp only [v_X1_movePressures_53, if_neg c0_0]; done)) (by first | (rw [v_X1_movePressures_54, if_neg c0_0]; done) | (rw [v_X1_movePressures_54, if_neg c0_0]; rfl) | (simp only [v_X1_movePressures_54, if_neg c0_0]; done)) (by first | (rw [v_X1_movePressures_55, if_neg c0_0]; done) | (rw [v_X1_movePressures_55, if_neg c0_0]; rfl) | (simp only [v_X1_movePressures_55, if_neg c0_0]; done)) (lv_sub hl [0, 1, 2, 3, 4] rfl) X
          · refine lv_aload_n hx hb dX1_movePressures_42 rfl (lv_at hl 2 rfl) ?_
            refine lv_iload hx hb dX1_movePressures_43 (lv_at hl 0 rfl) ?_
            refine lv_iload_n hx hb dX1_movePressures_45 rfl (lv_at hl 3 rfl) ?_
            refine s_cVv (ws' := [(h, ctE (f_X1_dump_3_h (v_X1_movePressures_33 z w0 w1 w2) w3) aw al), (aw, waE ty a0 a1 a2 a3), (a0, whE (v_X1_movePressures_4 z w0 dm) m0), (a1, whE (v_X1_movePressures_19 z w0 w1 dm) m1), (a2, whE (v_X1_movePressures_34 z w0 w1 w2 w3 dm) m2), (a3, whE (f_X1_dump_3_a3 (v_X1_movePressures_33 z w0 w1 w2) w3) m3), (al, loE (v_X1_movePressures_43 fi lc z w0 w1 w2) (v_X1_movePressures_44 lc z w0 w1 w2) t k v), (t, arE ty 40 (v_X1_movePressures_46 fi lc z w0 w1 w2 lt T)), (k, arE ty 40 (v_X1_movePressures_47 fi lc z w0 w1 w2 lk)), (v, arE ty 40 (v_X1_movePressures_48 fi lc z w0 w1 w2 lv))]) C hK hA X (c_X1_dump_3 l D ty h aw al a0 a1 a2 a3 m3 t k v (v_X1_movePressures_35 fi lc z w0 w1 w2) (v_X1_movePressures_36 lc z w0 w1 w2) (v_X1_movePressures_33 z w0 w1 w2) w3 (v_X1_movePressures_37 fi lc z w0 w1 w2 lt T) (v_X1_movePressures_38 fi lc z w0 w1 w2 lk) (v_X1_movePressures_39 fi lc z w0 w1 w2 lv) T (okm_X1_movePressures_41 fi lc z w0 w1 w2 hg)) [0, 1, 5, 6, 7, 8, 9] (pk_c rfl (pk_c rfl (pk_c rfl (pk_c rfl (pk_c rfl (pk_c rfl (pk_c rfl pk_n))))))) rfl (pk_c rfl (pk_c rfl (pk_c rfl (pk_c rfl (pk_c rfl (pk_c rfl (pk_c rfl pk_n))))))) (em_t (em_t (em_f (em_f (em_f (em_t (em_t (em_t (em_t (em_t em_n)))))))))) rfl ml_X1_dump wm_X1_168 (q0 := 0) rfl rfl rfl ⟨Nat.le_of_ble_eq_true rfl, Nat.le_of_ble_eq_true rfl⟩ ⟨Nat.zero_le _, Nat.zero_le _⟩ hl.1 rfl (Nat.le_of_ble_eq_true rfl) dX1_movePressures_46 (fun H locs X => ?_)
            refine lv_goto (tgt := 73) hx hb dX1_movePressures_49 (by decide) ?_
            exact J73_58 (f_X1_dump_3_h (v_X1_movePressures_33 z w0 w1 w2) w3) (f_X1_dump_3_a3 (v_X1_movePressures_33 z w0 w1 w2) w3) (v_X1_movePressures_43 fi lc z w0 w1 w2) (v_X1_movePressures_44 lc z w0 w1 w2) (v_X1_movePressures_46 fi lc z w0 w1 w2 lt T) (v_X1_movePressures_47 fi lc z w0 w1 w2 lk) (v_X1_movePressures_48 fi lc z w0 w1 w2 lv) _ _ _ (by first | (rw [v_X1_movePressures_49, if_pos c0_0]; done) | (rw [v_X1_movePressures_49, if_pos c0_0]; rfl) | (simp only [v_X1_movePressures_49, if_pos c0_0]; done)) (by first | (rw [v_X1_movePressures_50, if_pos c0_0]; done) | (rw [v_X1_movePressures_50, if_pos c0_0]; rfl) | (simp only [v_X1_movePressures_50, if_pos c0_0]; done)) (by first | (rw [v_X1_movePressures_51, if_pos c0_0]; done) | (rw [v_X1_movePressures_51, if_pos c0_0]; rfl) | (simp only [v_X1_movePressures_51, if_pos c0_0]; done)) (by first | (rw [v_X1_movePressures_52, if_pos c0_0]; done) | (rw [v_X1_movePressures_52, if_pos c0_0]; rfl) | (simp only [v_X1_movePressures_52, if_pos c0_0]; done)) (by first | (rw [v_X1_movePressures_53, if_pos c0_0]; done) | (rw [v_X1_movePressures_53, if_pos c0_0]; rfl) | (simp only [v_X1_movePressures_53, if_pos c0_0]; done)) (by first | (rw [v_X1_movePressures_54, if_pos c0_0]; done) | (rw [v_X1_movePressures_54, if_pos c0_0]; rfl) | (simp only [v_X1_movePressures_54, if_pos c0_0]; done)) (by first | (rw [v_X1_movePressures_55, if_pos c0_0]; done) | (rw [v_X1_movePressures_55, if_pos c0_0]; rfl) | (simp only [v_X1_movePressures_55, if_pos c0_0]; done)) (lv_sub hl [0, 1, 2, 3, 4] rfl) X
        refine lv_icmp_ne (tgt := 52) hx hb dX1_movePressures_39 (by decide) (fun c0_0 => ?_) (fun c0_0 => ?_)
        · refine lv_aload_n hx hb dX1_movePressures_52 rfl (lv_at hl 2 rfl) ?_
          refine get_ct_0 C hK X 0 rfl fl_X1_11 dX1_movePressures_53 ?_
          refine lv_iload hx hb dX1_movePressures_56 (lv_at hl 0 rfl) ?_
          refine s_aald (t0 := 2) (b := a2) C hK X 1 rfl rfl (vp_in_nI (n := 2) (by decide) (by decide)) rfl dX1_movePressures_58 ?_
          refine lv_iload hx hb dX1_movePressures_59 (lv_at hl 0 rfl) ?_
          refine lv_iconst (v := 2) hx hb dX1_movePressures_61 (by decide) ?_
          refine lv_icmp_ge (tgt := 69) hx hb dX1_movePressures_62 (by decide) (fun _ => ?_) (fun c0 => absurd (by decide) c0)
          refine lv_iload_n hx hb dX1_movePressures_69 rfl (lv_at hl 1 rfl) ?_
          refine s_cVv (ws' := [(h, ctE (v_X1_movePressures_18 z w0 w1) aw al), (aw, waE ty a0 a1 a2 a3), (a0, whE (v_X1_movePressures_4 z w0 dm) m0), (a1, whE (v_X1_movePressures_19 z w0 w1 dm) m1), (a2, whE (f_X5_movePressure_h w2 (v_X1_movePressures_1 w2 w3 dm)) m2), (a3, whE w3 m3), (al, loE (v_X1_movePressures_20 fi lc z w0 w1) (v_X1_movePressures_21 lc z w0 w1) t k v), (t, arE ty 40 (v_X1_movePressures_22 fi lc z w0 w1 lt T)), (k, arE ty 40 (v_X1_movePressures_23 fi lc z w0 w1 lk)), (v, arE ty 40 (v_X1_movePressures_24 fi lc z w0 w1 lv))]) C hK hA X (c_X5_movePressure l D ty a2 m2 w2 (v_X1_movePressures_1 w2 w3 dm)) [4] (pk_c rfl pk_n) rfl (pk_c rfl pk_n) (em_f (em_f (em_f (em_f (em_t (em_f (em_f (em_f (em_f (em_f em_n)))))))))) rfl ml_X5_movePressure wm_X1_171 (q0 := 0) rfl rfl rfl ⟨Nat.le_of_ble_eq_true rfl, Nat.le_of_ble_eq_true rfl⟩ ⟨Nat.zero_le _, Nat.zero_le _⟩ hl.1 rfl (Nat.le_of_ble_eq_true rfl) dX1_movePressures_70 (fun H locs X => ?_)
          exact J73_42 (v_X1_movePressures_18 z w0 w1) (f_X5_movePressure_h w2 (v_X1_movePressures_1 w2 w3 dm)) (v_X1_movePressures_20 fi lc z w0 w1) (v_X1_movePressures_21 lc z w0 w1) (v_X1_movePressures_22 fi lc z w0 w1 lt T) (v_X1_movePressures_23 fi lc z w0 w1 lk) (v_X1_movePressures_24 fi lc z w0 w1 lv) _ _ _ (by first | (rw [v_X1_movePressures_33, if_neg c0_0]; done) | (rw [v_X1_movePressures_33, if_neg c0_0]; rfl) | (simp only [v_X1_movePressures_33, if_neg c0_0]; done)) (by first | (rw [v_X1_movePressures_34, if_neg c0_0]; done) | (rw [v_X1_movePressures_34, if_neg c0_0]; rfl) | (simp only [v_X1_movePressures_34, if_neg c0_0]; done)) (by first | (rw [v_X1_movePressures_35, if_neg c0_0]; done) | (rw [v_X1_movePressures_35, if_neg c0_0]; rfl) | (simp only [v_X1_movePressures_35, if_neg c0_0]; done)) (by first | (rw [v_X1_movePressures_36, if_neg c0_0]; done) | (rw [v_X1_movePressures_36, if_neg c0_0]; rfl) | (simp only [v_X1_movePressures_36, if_neg c0_0]; done)) (by first | (rw [v_X1_movePressures_37, if_neg c0_0]; done) | (rw [v_X1_movePressures_37, if_neg c0_0]; rfl) | (simp only [v_X1_movePressures_37, if_neg c0_0]; done)) (by first | (rw [v_X1_movePressures_38, if_neg c0_0]; done) | (rw [v_X1_movePressures_38, if_neg c0_0]; rfl) | (simp only [v_X1_movePressures_38, if_neg c0_0]; done)) (by first | (rw [v_X1_movePressures_39, if_neg c0_0]; done) | (rw [v_X1_movePressures_39, if_neg c0_0]; rfl) | (simp only [v_X1_movePressures_39, if_neg c0_0]; done)) (lv_sub hl [0, 1, 2, 3, 4] rfl) X
        · refine lv_aload_n hx hb dX1_movePressures_42 rfl (lv_at hl 2 rfl) ?_
          refine lv_iload hx hb dX1_movePressures_43 (lv_at hl 0 rfl) ?_
          refine lv_iload_n hx hb dX1_movePressures_45 rfl (lv_at hl 3 rfl) ?_
          refine s_cVv (ws' := [(h, ctE (f_X1_dump_2_h (v_X1_movePressures_18 z w0 w1) w2) aw al), (aw, waE ty a0 a1 a2 a3), (a0, whE (v_X1_movePressures_4 z w0 dm) m0), (a1, whE (v_X1_movePressures_19 z w0 w1 dm) m1), (a2, whE (f_X1_dump_2_a2 (v_X1_movePressures_18 z w0 w1) w2) m2), (a3, whE w3 m3), (al, loE (v_X1_movePressures_28 fi lc z w0 w1) (f_X1_dump_2_al_lc (v_X1_movePressures_21 lc z w0 w1) (v_X1_movePressures_18 z w0 w1)) t k v), (t, arE ty 40 (v_X1_movePressures_30 fi lc z w0 w1 lt T)), (k, arE ty 40 (v_X1_movePressures_31 fi lc z w0 w1 lk)), (v, arE ty 40 (v_X1_movePressures_32 fi lc z w0 w1 lv))]) C hK hA X (c_X1_dump_2 l D ty h aw al a0 a1 a2 a3 m2 t k v (v_X1_movePressures_20 fi lc z w0 w1) (v_X1_movePressures_21 lc z w0 w1) (v_X1_movePressures_18 z w0 w1) w2 (v_X1_movePressures_22 fi lc z w0 w1 lt T) (v_X1_movePressures_23 fi lc z w0 w1 lk) (v_X1_movePressures_24 fi lc z w0 w1 lv) T (okm_X1_movePressures_26 fi lc z w0 w1 hg)) [0, 1, 4, 6, 7, 8, 9] (pk_c rfl (pk_c rfl (pk_c rfl (pk_c rfl (pk_c rfl (pk_c rfl (pk_c rfl pk_n))))))) rfl (pk_c rfl (pk_c rfl (pk_c rfl (pk_c rfl (pk_c rfl (pk_c rfl (pk_c rfl pk_n))))))) (em_t (em_t (em_f (em_f (em_t (em_f (em_t (em_t (em_t (em_t em_n)))))))))) rfl ml_X1_dump wm_X1_168 (q0 := 0) rfl rfl rfl ⟨Nat.le_of_ble_eq_true rfl, Nat.le_of_ble_eq_true rfl⟩ ⟨Nat.zero_le _, Nat.zero_le _⟩ hl.1 rfl (Nat.le_of_ble_eq_true rfl) dX1_movePressures_46 (fun H locs X => ?_)
          refine lv_goto (tgt := 73) hx hb dX1_movePressures_49 (by decide) ?_
          exact J73_42 (f_X1_dump_2_h (v_X1_movePressures_18 z w0 w1) w2) (f_X1_dump_2_a2 (v_X1_movePressures_18 z w0 w1) w2) (v_X1_movePressures_28 fi lc z w0 w1) (f_X1_dump_2_al_lc (v_X1_movePressures_21 lc z w0 w1) (v_X1_movePressures_18 z w0 w1)) (v_X1_movePressures_30 fi lc z w0 w1 lt T) (v_X1_movePressures_31 fi lc z w0 w1 lk) (v_X1_movePressures_32 fi lc z w0 w1 lv) _ _ _ (by first | (rw [v_X1_movePressures_33, if_pos c0_0]; done) | (rw [v_X1_movePressures_33, if_pos c0_0]; rfl) | (simp only [v_X1_movePressures_33, if_pos c0_0]; done)) (by first | (rw [v_X1_movePressures_34, if_pos c0_0]; done) | (rw [v_X1_movePressures_34, if_pos c0_0]; rfl) | (simp only [v_X1_movePressures_34, if_pos c0_0]; done)) (by first | (rw [v_X1_movePressures_35, if_pos c0_0]; done) | (rw [v_X1_movePressures_35, if_pos c0_0]; rfl) | (simp only [v_X1_movePressures_35, if_pos c0_0]; done)) (by first | (rw [v_X1_movePressures_36, if_pos c0_0]; done) | (rw [v_X1_movePressures_36, if_pos c0_0]; rfl) | (simp only [v_X1_movePressures_36, if_pos c0_0]; done)) (by first | (rw [v_X1_movePressures_37, if_pos c0_0]; done) | (rw [v_X1_movePressures_37, if_pos c0_0]; rfl) | (simp only [v_X1_movePressures_37, if_pos c0_0]; done)) (by first | (rw [v_X1_movePressures_38, if_pos c0_0]; done) | (rw [v_X1_movePressures_38, if_pos c0_0]; rfl) | (simp only [v_X1_movePressures_38, if_pos c0_0]; done)) (by first | (rw [v_X1_movePressures_39, if_pos c0_0]; done) | (rw [v_X1_movePressures_39, if_pos c0_0]; rfl) | (simp only [v_X1_movePressures_39, if_pos c0_0]; done)) (lv_sub hl [0, 1, 2, 3, 4] rfl) X
      refine lv_icmp_ne (tgt := 52) hx hb dX1_movePressures_39 (by decide) (fun c0_0 => ?_) (fun c0_0 => ?_)
      · refine lv_aload_n hx hb dX1_movePressures_52 rfl (lv_at hl 2 rfl) ?_
        refine get_ct_0 C hK X 0 rfl fl_X1_11 dX1_movePressures_53 ?_
        refine lv_iload hx hb dX1_movePressures_56 (lv_at hl 0 rfl) ?_
        refine s_aald (t0 := 2) (b := a1) C hK X 1 rfl rfl (vp_in_nI (n := 1) (by decide) (by decide)) rfl dX1_movePressures_58 ?_
        refine lv_iload hx hb dX1_movePressures_59 (lv_at hl 0 rfl) ?_
        refine lv_iconst (v := 2) hx hb dX1_movePressures_61 (by decide) ?_
        refine lv_icmp_ge (tgt := 69) hx hb dX1_movePressures_62 (by decide) (fun c0 => absurd c0 (by decide)) (fun _ => ?_)
        refine lv_iload_n hx hb dX1_movePressures_65 rfl (lv_at hl 4 rfl) ?_
        refine lv_goto (tgt := 70) hx hb dX1_movePressures_66 (by decide) ?_
        refine s_cVv (ws' := [(h, ctE (v_X1_movePressures_3 z w0) aw al), (aw, waE ty a0 a1 a2 a3), (a0, whE (v_X1_movePressures_4 z w0 dm) m0), (a1, whE (f_X5_movePressure_h w1 dm) m1), (a2, whE w2 m2), (a3, whE w3 m3), (al, loE (v_X1_movePressures_5 fi lc z w0) (v_X1_movePressures_6 lc z w0) t k v), (t, arE ty 40 (v_X1_movePressures_7 fi lc z w0 lt T)), (k, arE ty 40 (v_X1_movePressures_8 fi lc z w0 lk)), (v, arE ty 40 (v_X1_movePressures_9 fi lc z w0 lv))]) C hK hA X (c_X5_movePressure l D ty a1 m1 w1 dm) [3] (pk_c rfl pk_n) rfl (pk_c rfl pk_n) (em_f (em_f (em_f (em_t (em_f (em_f (em_f (em_f (em_f (em_f em_n)))))))))) rfl ml_X5_movePressure wm_X1_171 (q0 := 0) rfl rfl rfl ⟨Nat.le_of_ble_eq_true rfl, Nat.le_of_ble_eq_true rfl⟩ ⟨Nat.zero_le _, Nat.zero_le _⟩ hl.1 rfl (Nat.le_of_ble_eq_true rfl) dX1_movePressures_70 (fun H locs X => ?_)
        exact J73_27 (v_X1_movePressures_3 z w0) (f_X5_movePressure_h w1 dm) (v_X1_movePressures_5 fi lc z w0) (v_X1_movePressures_6 lc z w0) (v_X1_movePressures_7 fi lc z w0 lt T) (v_X1_movePressures_8 fi lc z w0 lk) (v_X1_movePressures_9 fi lc z w0 lv) _ _ _ (by first | (rw [v_X1_movePressures_18, if_neg c0_0]; done) | (rw [v_X1_movePressures_18, if_neg c0_0]; rfl) | (simp only [v_X1_movePressures_18, if_neg c0_0]; done)) (by first | (rw [v_X1_movePressures_19, if_neg c0_0]; done) | (rw [v_X1_movePressures_19, if_neg c0_0]; rfl) | (simp only [v_X1_movePressures_19, if_neg c0_0]; done)) (by first | (rw [v_X1_movePressures_20, if_neg c0_0]; done) | (rw [v_X1_movePressures_20, if_neg c0_0]; rfl) | (simp only [v_X1_movePressures_20, if_neg c0_0]; done)) (by first | (rw [v_X1_movePressures_21, if_neg c0_0]; done) | (rw [v_X1_movePressures_21, if_neg c0_0]; rfl) | (simp only [v_X1_movePressures_21, if_neg c0_0]; done)) (by first | (rw [v_X1_movePressures_22, if_neg c0_0]; done) | (rw [v_X1_movePressures_22, if_neg c0_0]; rfl) | (simp only [v_X1_movePressures_22, if_neg c0_0]; done)) (by first | (rw [v_X1_movePressures_23, if_neg c0_0]; done) | (rw [v_X1_movePressures_23, if_neg c0_0]; rfl) | (simp only [v_X1_movePressures_23, if_neg c0_0]; done)) (by first | (rw [v_X1_movePressures_24, if_neg c0_0]; done) | (rw [v_X1_movePressures_24, if_neg c0_0]; rfl) | (simp only [v_X1_movePressures_24, if_neg c0_0]; done)) (lv_sub hl [0, 1, 2, 3, 4] rfl) X
      · refine lv_aload_n hx hb dX1_movePressures_42 rfl (lv_at hl 2 rfl) ?_
        refine lv_iload hx hb dX1_movePressures_43 (lv_at hl 0 rfl) ?_
        refine lv_iload_n hx hb dX1_movePressures_45 rfl (lv_at hl 3 rfl) ?_
        refine s_cVv (ws' := [(h, ctE (f_X1_dump_1_h (v_X1_movePressures_3 z w0) w1) aw al), (aw, waE ty a0 a1 a2 a3), (a0, whE (v_X1_movePressures_4 z w0 dm) m0), (a1, whE (f_X1_dump_1_a1 (v_X1_movePressures_3 z w0) w1) m1), (a2, whE w2 m2), (a3, whE w3 m3), (al, loE (v_X1_movePressures_13 fi lc z w0) (f_X1_dump_1_al_lc (v_X1_movePressures_6 lc z w0) (v_X1_movePressures_3 z w0)) t k v), (t, arE ty 40 (v_X1_movePressures_15 fi lc z w0 lt T)), (k, arE ty 40 (v_X1_movePressures_16 fi lc z w0 lk)), (v, arE ty 40 (v_X1_movePressures_17 fi lc z w0 lv))]) C hK hA X (c_X1_dump_1 l D ty h aw al a0 a1 a2 a3 m1 t k v (v_X1_movePressures_5 fi lc z w0) (v_X1_movePressures_6 lc z w0) (v_X1_movePressures_3 z w0) w1 (v_X1_movePressures_7 fi lc z w0 lt T) (v_X1_movePressures_8 fi lc z w0 lk) (v_X1_movePressures_9 fi lc z w0 lv) T (okm_X1_movePressures_11 fi lc z w0 hg)) [0, 1, 3, 6, 7, 8, 9] (pk_c rfl (pk_c rfl (pk_c rfl (pk_c rfl (pk_c rfl (pk_c rfl (pk_c rfl pk_n))))))) rfl (pk_c rfl (pk_c rfl (pk_c rfl (pk_c rfl (pk_c rfl (pk_c rfl (pk_c rfl pk_n))))))) (em_t (em_t (em_f (em_t (em_f (em_f (em_t (em_t (em_t (em_t em_n)))))))))) rfl ml_X1_dump wm_X1_168 (q0 := 0) rfl rfl rfl ⟨Nat.le_of_ble_eq_true rfl, Nat.le_of_ble_eq_true rfl⟩ ⟨Nat.zero_le _, Nat.zero_le _⟩ hl.1 rfl (Nat.le_of_ble_eq_true rfl) dX1_movePressures_46 (fun H locs X => ?_)
        refine lv_goto (tgt := 73) hx hb dX1_movePressures_49 (by decide) ?_
        exact J73_27 (f_X1_dump_1_h (v_X1_movePressures_3 z w0) w1) (f_X1_dump_1_a1 (v_X1_movePressures_3 z w0) w1) (v_X1_movePressures_13 fi lc z w0) (f_X1_dump_1_al_lc (v_X1_movePressures_6 lc z w0) (v_X1_movePressures_3 z w0)) (v_X1_movePressures_15 fi lc z w0 lt T) (v_X1_movePressures_16 fi lc z w0 lk) (v_X1_movePressures_17 fi lc z w0 lv) _ _ _ (by first | (rw [v_X1_movePressures_18, if_pos c0_0]; done) | (rw [v_X1_movePressures_18, if_pos c0_0]; rfl) | (simp only [v_X1_movePressures_18, if_pos c0_0]; done)) (by first | (rw [v_X1_movePressures_19, if_pos c0_0]; done) | (rw [v_X1_movePressures_19, if_pos c0_0]; rfl) | (simp only [v_X1_movePressures_19, if_pos c0_0]; done)) (by first | (rw [v_X1_movePressures_20, if_pos c0_0]; done) | (rw [v_X1_movePressures_20, if_pos c0_0]; rfl) | (simp only [v_X1_movePressures_20, if_pos c0_0]; done)) (by first | (rw [v_X1_movePressures_21, if_pos c0_0]; done) | (rw [v_X1_movePressures_21, if_pos c0_0]; rfl) | (simp only [v_X1_movePressures_21, if_pos c0_0]; done)) (by first | (rw [v_X1_movePressures_22, if_pos c0_0]; done) | (rw [v_X1_movePressures_22, if_pos c0_0]; rfl) | (simp only [v_X1_movePressures_22, if_pos c0_0]; done)) (by first | (rw [v_X1_movePressures_23, if_pos c0_0]; done) | (rw [v_X1_movePressures_23, if_pos c0_0]; rfl) | (simp only [v_X1_movePressures_23, if_pos c0_0]; done)) (by first | (rw [v_X1_movePressures_24, if_pos c0_0]; done) | (rw [v_X1_movePressures_24, if_pos c0_0]; rfl) | (simp only [v_X1_movePressures_24, if_pos c0_0]; done)) (lv_sub hl [0, 1, 2, 3, 4] rfl) X
    refine lv_icmp_ne (tgt := 52) hx hb dX1_movePressures_39 (by decide) (fun c0_0 => ?_) (fun c0_0 => ?_)
    · refine lv_aload_n hx hb dX1_movePressures_52 rfl (lv_at hl 2 rfl) ?_
      refine get_ct_0 C hK X 0 rfl fl_X1_11 dX1_movePressures_53 ?_
      refine lv_iload hx hb dX1_movePressures_56 (lv_at hl 0 rfl) ?_
      refine s_aald (t0 := 2) (b := a0) C hK X 1 rfl rfl (vp_in_nI (n := 0) (by decide) (by decide)) rfl dX1_movePressures_58 ?_
      refine lv_iload hx hb dX1_movePressures_59 (lv_at hl 0 rfl) ?_
      refine lv_iconst (v := 2) hx hb dX1_movePressures_61 (by decide) ?_
      refine lv_icmp_ge (tgt := 69) hx hb dX1_movePressures_62 (by decide) (fun c0 => absurd c0 (by decide)) (fun _ => ?_)
      refine lv_iload_n hx hb dX1_movePressures_65 rfl (lv_at hl 4 rfl) ?_
      refine lv_goto (tgt := 70) hx hb dX1_movePressures_66 (by decide) ?_
      refine s_cVv (ws' := [(h, ctE z aw al), (aw, waE ty a0 a1 a2 a3), (a0, whE (f_X5_movePressure_h w0 dm) m0), (a1, whE w1 m1), (a2, whE w2 m2), (a3, whE w3 m3), (al, loE fi lc t k v), (t, arE ty 40 lt), (k, arE ty 40 lk), (v, arE ty 40 lv)]) C hK hA X (c_X5_movePressure l D ty a0 m0 w0 dm) [2] (pk_c rfl pk_n) rfl (pk_c rfl pk_n) (em_f (em_f (em_t (em_f (em_f (em_f (em_f (em_f (em_f (em_f em_n)))))))))) rfl ml_X5_movePressure wm_X1_171 (q0 := 0) rfl rfl rfl ⟨Nat.le_of_ble_eq_true rfl, Nat.le_of_ble_eq_true rfl⟩ ⟨Nat.zero_le _, Nat.zero_le _⟩ hl.1 rfl (Nat.le_of_ble_eq_true rfl) dX1_movePressures_70 (fun H locs X => ?_)
      exact J73_12 z (f_X5_movePressure_h w0 dm) fi lc lt lk lv _ _ _ (by first | (rw [v_X1_movePressures_3, if_neg c0_0]; done) | (rw [v_X1_movePressures_3, if_neg c0_0]; rfl) | (simp only [v_X1_movePressures_3, if_neg c0_0]; done)) (by first | (rw [v_X1_movePressures_4, if_neg c0_0]; done) | (rw [v_X1_movePressures_4, if_neg c0_0]; rfl) | (simp only [v_X1_movePressures_4, if_neg c0_0]; done)) (by first | (rw [v_X1_movePressures_5, if_neg c0_0]; done) | (rw [v_X1_movePressures_5, if_neg c0_0]; rfl) | (simp only [v_X1_movePressures_5, if_neg c0_0]; done)) (by first | (rw [v_X1_movePressures_6, if_neg c0_0]; done) | (rw [v_X1_movePressures_6, if_neg c0_0]; rfl) | (simp only [v_X1_movePressures_6, if_neg c0_0]; done)) (by first | (rw [v_X1_movePressures_7, if_neg c0_0]; done) | (rw [v_X1_movePressures_7, if_neg c0_0]; rfl) | (simp only [v_X1_movePressures_7, if_neg c0_0]; done)) (by first | (rw [v_X1_movePressures_8, if_neg c0_0]; done) | (rw [v_X1_movePressures_8, if_neg c0_0]; rfl) | (simp only [v_X1_movePressures_8, if_neg c0_0]; done)) (by first | (rw [v_X1_movePressures_9, if_neg c0_0]; done) | (rw [v_X1_movePressures_9, if_neg c0_0]; rfl) | (simp only [v_X1_movePressures_9, if_neg c0_0]; done)) (lv_sub hl [0, 1, 2, 3, 4] rfl) X
    · refine lv_aload_n hx hb dX1_movePressures_42 rfl (lv_at hl 2 rfl) ?_
      refine lv_iload hx hb dX1_movePressures_43 (lv_at hl 0 rfl) ?_
      refine lv_iload_n hx hb dX1_movePressures_45 rfl (lv_at hl 3 rfl) ?_
      refine s_cVv (ws' := [(h, ctE (f_X1_dump_0_h z w0) aw al), (aw, waE ty a0 a1 a2 a3), (a0, whE (f_X1_dump_0_a0 z w0) m0), (a1, whE w1 m1), (a2, whE w2 m2), (a3, whE w3 m3), (al, loE (f_X1_dump_0_al_fi fi lc z) (f_X1_dump_0_al_lc lc z) t k v), (t, arE ty 40 (f_X1_dump_0_t fi lc z lt T)), (k, arE ty 40 (f_X1_dump_0_k fi lc z lk)), (v, arE ty 40 (f_X1_dump_0_v fi lc z lv))]) C hK hA X (c_X1_dump_0 l D ty h aw al a0 a1 a2 a3 m0 t k v fi lc z w0 lt lk lv T hg) [0, 1, 2, 6, 7, 8, 9] (pk_c rfl (pk_c rfl (pk_c rfl (pk_c rfl (pk_c rfl (pk_c rfl (pk_c rfl pk_n))))))) rfl (pk_c rfl (pk_c rfl (pk_c rfl (pk_c rfl (pk_c rfl (pk_c rfl (pk_c rfl pk_n))))))) (em_t (em_t (em_t (em_f (em_f (em_f (em_t (em_t (em_t (em_t em_n)))))))))) rfl ml_X1_dump wm_X1_168 (q0 := 0) rfl rfl rfl ⟨Nat.le_of_ble_eq_true rfl, Nat.le_of_ble_eq_true rfl⟩ ⟨Nat.zero_le _, Nat.zero_le _⟩ hl.1 rfl (Nat.le_of_ble_eq_true rfl) dX1_movePressures_46 (fun H locs X => ?_)
      refine lv_goto (tgt := 73) hx hb dX1_movePressures_49 (by decide) ?_
      exact J73_12 (f_X1_dump_0_h z w0) (f_X1_dump_0_a0 z w0) (f_X1_dump_0_al_fi fi lc z) (f_X1_dump_0_al_lc lc z) (f_X1_dump_0_t fi lc z lt T) (f_X1_dump_0_k fi lc z lk) (f_X1_dump_0_v fi lc z lv) _ _ _ (by first | (rw [v_X1_movePressures_3, if_pos c0_0]; done) | (rw [v_X1_movePressures_3, if_pos c0_0]; rfl) | (simp only [v_X1_movePressures_3, if_pos c0_0]; done)) (by first | (rw [v_X1_movePressures_4, if_pos c0_0]; done) | (rw [v_X1_movePressures_4, if_pos c0_0]; rfl) | (simp only [v_X1_movePressures_4, if_pos c0_0]; done)) (by first | (rw [v_X1_movePressures_5, if_pos c0_0]; done) | (rw [v_X1_movePressures_5, if_pos c0_0]; rfl) | (simp only [v_X1_movePressures_5, if_pos c0_0]; done)) (by first | (rw [v_X1_movePressures_6, if_pos c0_0]; done) | (rw [v_X1_movePressures_6, if_pos c0_0]; rfl) | (simp only [v_X1_movePressures_6, if_pos c0_0]; done)) (by first | (rw [v_X1_movePressures_7, if_pos c0_0]; done) | (rw [v_X1_movePressures_7, if_pos c0_0]; rfl) | (simp only [v_X1_movePressures_7, if_pos c0_0]; done)) (by first | (rw [v_X1_movePressures_8, if_pos c0_0]; done) | (rw [v_X1_movePressures_8, if_pos c0_0]; rfl) | (simp only [v_X1_movePressures_8, if_pos c0_0]; done)) (by first | (rw [v_X1_movePressures_9, if_pos c0_0]; done) | (rw [v_X1_movePressures_9, if_pos c0_0]; rfl) | (simp only [v_X1_movePressures_9, if_pos c0_0]; done)) (lv_sub hl [0, 1, 2, 3, 4] rfl) X
  refine lv_if_eq (tgt := 17) hx hb dX1_movePressures_4 (by decide) (fun c0_0 => ?_) (fun c0_0 => ?_)
  · refine lv_iload_n hx hb dX1_movePressures_17 rfl (lv_at hl 2 rfl) ?_
    exact J18_2 dm _ _ _ (by first | (rw [v_X1_movePressures_1, if_pos c0_0]; done) | (rw [v_X1_movePressures_1, if_pos c0_0]; rfl) | (simp only [v_X1_movePressures_1, if_pos c0_0]; done)) (lv_sub hl [0, 1, 2] rfl) X
  · refine lv_iload_n hx hb dX1_movePressures_7 rfl (lv_at hl 2 rfl) ?_
    refine lv_sipush (v := 500) hx hb dX1_movePressures_8 (by decide) ?_
    refine s_mn C hl.1 wm_X1_111 (Nat.le_of_ble_eq_true rfl) (Nat.le_of_ble_eq_true rfl) ⟨Nat.zero_le _, Nat.zero_le _⟩ dX1_movePressures_11 ?_
    refine lv_goto (tgt := 18) hx hb dX1_movePressures_14 (by decide) ?_
    exact J18_2 (mn dm 500) _ _ _ (by first | (rw [v_X1_movePressures_1, if_neg c0_0]; done) | (rw [v_X1_movePressures_1, if_neg c0_0]; rfl) | (simp only [v_X1_movePressures_1, if_neg c0_0]; done)) (lv_sub hl [0, 1, 2] rfl) X
def f_X1_limitYaw_h (z : F1) (w0 : F1) (w1 : F1) : F1 := (if (w0 2) = 0 then (if (w1 2) = 0 then (upd z 3 150) else (upd z 3 (mn ((z 3) + 4) 1000))) else (upd z 3 (mn ((z 3) + 4) 1000)))
def f_X1_limitYaw_a0 (z : F1) (w0 : F1) (w1 : F1) : F1 := (if (w0 2) = 0 then (if (w1 2) = 0 then w0 else (upd w0 1 (mn (w0 1) ((mn (w0 1) (w1 1)) + (z 3))))) else (upd w0 1 (mn (w0 1) ((mn (w0 1) (w1 1)) + (z 3)))))
def f_X1_limitYaw_a1 (z : F1) (w0 : F1) (w1 : F1) : F1 := (if (w0 2) = 0 then (if (w1 2) = 0 then w1 else (upd w1 1 (mn (w1 1) ((mn (w0 1) (w1 1)) + (z 3))))) else (upd w1 1 (mn (w1 1) ((mn (w0 1) (w1 1)) + (z 3)))))
theorem ok_X1_limitYaw_a0 (z : F1) (w0 : F1) (w1 : F1) (tk_a0 : kpOK w0) : kpOK (f_X1_limitYaw_a0 z w0 w1) := by
  by_cases k0 : (w0 2) = 0
  · by_cases k1 : (w1 2) = 0
    · (try simp only [f_X1_limitYaw_a0, if_pos k0, if_pos k1]); exact tk_a0
    · (try simp only [f_X1_limitYaw_a0, if_pos k0, if_neg k1]); exact (kp_upd tk_a0)
  · (try simp only [f_X1_limitYaw_a0, if_neg k0]); exact (kp_upd tk_a0)
theorem ok_X1_limitYaw_a1 (z : F1) (w0 : F1) (w1 : F1) (tk_a1 : kpOK w1) : kpOK (f_X1_limitYaw_a1 z w0 w1) := by
  by_cases k0 : (w0 2) = 0
  · by_cases k1 : (w1 2) = 0
    · (try simp only [f_X1_limitYaw_a1, if_pos k0, if_pos k1]); exact tk_a1
    · (try simp only [f_X1_limitYaw_a1, if_pos k0, if_neg k1]); exact (kp_upd tk_a1)
  · (try simp only [f_X1_limitYaw_a1, if_neg k0]); exact (kp_upd tk_a1)
set_option maxHeartbeats 4000000 in
set_option maxRecDepth 100000 in
theorem c_X1_limitYaw (l : Launch) (D : va_G) (ty : Nat → ClassId) (h : Nat) (aw : Nat) (al : Nat) (a0 : Nat) (a1 : Nat) (a2 : Nat) (a3 : Nat) (m0 : Nat) (m1 : Nat) (m2 : Nat) (m3 : Nat) (z : F1) (w0 : F1) (w1 : F1) (w2 : F1) (w3 : F1) : MC l D ty yX1_limitYaw cX1_limitYaw 4 none 1 [.ref h] [(h, ctE z aw al), (aw, waE ty a0 a1 a2 a3), (a0, whE w0 m0), (a1, whE w1 m1), (a2, whE w2 m2), (a3, whE w3 m3)] none [(h, ctE (f_X1_limitYaw_h z w0 w1) aw al), (aw, waE ty a0 a1 a2 a3), (a0, whE (f_X1_limitYaw_a0 z w0 w1) m0), (a1, whE (f_X1_limitYaw_a1 z w0 w1) m1), (a2, whE w2 m2), (a3, whE w3 m3)] := by
  refine mc_v (by decide +kernel) (Nat.le_of_ble_eq_true rfl) ?_
  intro p e s m args below meth c A Q ls C hK hA X hret hl
  have hx := C.1
  have hb := C.2.1
  have hl : lv_has ls 4 [(0, .ref h)] := hl
  have X : Wd D A s.heap [(h, ctE z aw al), (aw, waE ty a0 a1 a2 a3), (a0, whE w0 m0), (a1, whE w1 m1), (a2, whE w2 m2), (a3, whE w3 m3)] s.heap [] := X
  refine lv_aload_n hx hb dX1_limitYaw_0 rfl (lv_at hl 0 rfl) ?_
  refine get_ct_0 C hK X 0 rfl fl_X1_11 dX1_limitYaw_1 ?_
  refine lv_iconst (v := 0) hx hb dX1_limitYaw_4 (by decide) ?_
  refine s_aald (t0 := 2) (b := a0) C hK X 1 rfl rfl (vp_in_nI (n := 0) (by decide) (by decide)) rfl dX1_limitYaw_5 ?_
  refine lv_astore_n (lv' := [(1, .ref a0), (0, .ref h)]) hx hb dX1_limitYaw_6 rfl hl (by decide) rfl (fun ls hl => ?_)
  refine lv_aload_n hx hb dX1_limitYaw_7 rfl (lv_at hl 1 rfl) ?_
  refine get_ct_0 C hK X 0 rfl fl_X1_11 dX1_limitYaw_8 ?_
  refine lv_iconst (v := 1) hx hb dX1_limitYaw_11 (by decide) ?_
  refine s_aald (t0 := 2) (b := a1) C hK X 1 rfl rfl (vp_in_nI (n := 1) (by decide) (by decide)) rfl dX1_limitYaw_12 ?_
  refine lv_astore_n (lv' := [(2, .ref a1), (1, .ref a0), (0, .ref h)]) hx hb dX1_limitYaw_13 rfl hl (by decide) rfl (fun ls hl => ?_)
  refine lv_aload_n hx hb dX1_limitYaw_14 rfl (lv_at hl 1 rfl) ?_
  refine get_wh_2 C hK X 2 rfl fl_X1_156 dX1_limitYaw_15 ?_
  refine lv_if_ne (tgt := 36) hx hb dX1_limitYaw_18 (by decide) (fun c0_0 => ?_) (fun c0_0 => ?_)
  · refine lv_aload_n hx hb dX1_limitYaw_36 rfl (lv_at hl 1 rfl) ?_
    refine get_wh_1 C hK X 2 rfl fl_X1_159 dX1_limitYaw_37 ?_
    refine lv_aload_n hx hb dX1_limitYaw_40 rfl (lv_at hl 0 rfl) ?_
    refine get_wh_1 C hK X 3 rfl fl_X1_159 dX1_limitYaw_41 ?_
    refine s_mn C hl.1 wm_X1_111 (Nat.le_of_ble_eq_true rfl) (Nat.le_of_ble_eq_true rfl) ⟨Nat.zero_le _, Nat.zero_le _⟩ dX1_limitYaw_44 ?_
    refine lv_aload_n hx hb dX1_limitYaw_47 rfl (lv_at hl 2 rfl) ?_
    refine get_ct_6 C hK X 0 rfl fl_X1_48 dX1_limitYaw_48 ?_
    refine lv_iadd hx hb dX1_limitYaw_51 ?_
    refine lv_istore_n (lv' := [(3, .int ((mn (w0 1) (w1 1)) + (z 3))), (2, .ref a1), (1, .ref a0), (0, .ref h)]) hx hb dX1_limitYaw_52 rfl hl (by decide) rfl (fun ls hl => ?_)
    refine lv_aload_n hx hb dX1_limitYaw_53 rfl (lv_at hl 2 rfl) ?_
    refine lv_aload_n hx hb dX1_limitYaw_54 rfl (lv_at hl 2 rfl) ?_
    refine get_wh_1 C hK X 2 rfl fl_X1_159 dX1_limitYaw_55 ?_
    refine lv_iload_n hx hb dX1_limitYaw_58 rfl (lv_at hl 0 rfl) ?_
    refine s_mn C hl.1 wm_X1_111 (Nat.le_of_ble_eq_true rfl) (Nat.le_of_ble_eq_true rfl) ⟨Nat.zero_le _, Nat.zero_le _⟩ dX1_limitYaw_59 ?_
    refine put_wh_1 C hK X 2 rfl pl_X1_159 dX1_limitYaw_62 (fun H locs X => ?_)
    have X : Wd D A s.heap [(h, ctE z aw al), (aw, waE ty a0 a1 a2 a3), (a0, whE (upd w0 1 (mn (w0 1) ((mn (w0 1) (w1 1)) + (z 3)))) m0), (a1, whE w1 m1), (a2, whE w2 m2), (a3, whE w3 m3)] H locs := X
    refine lv_aload_n hx hb dX1_limitYaw_65 rfl (lv_at hl 1 rfl) ?_
    refine lv_aload_n hx hb dX1_limitYaw_66 rfl (lv_at hl 1 rfl) ?_
    refine get_wh_1 C hK X 3 rfl fl_X1_159 dX1_limitYaw_67 ?_
    refine lv_iload_n hx hb dX1_limitYaw_70 rfl (lv_at hl 0 rfl) ?_
    refine s_mn C hl.1 wm_X1_111 (Nat.le_of_ble_eq_true rfl) (Nat.le_of_ble_eq_true rfl) ⟨Nat.zero_le _, Nat.zero_le _⟩ dX1_limitYaw_71 ?_
    refine put_wh_1 C hK X 3 rfl pl_X1_159 dX1_limitYaw_74 (fun H locs X => ?_)
    have X : Wd D A s.heap [(h, ctE z aw al), (aw, waE ty a0 a1 a2 a3), (a0, whE (upd w0 1 (mn (w0 1) ((mn (w0 1) (w1 1)) + (z 3)))) m0), (a1, whE (upd w1 1 (mn (w1 1) ((mn (w0 1) (w1 1)) + (z 3)))) m1), (a2, whE w2 m2), (a3, whE w3 m3)] H locs := X
    refine lv_aload_n hx hb dX1_limitYaw_77 rfl (lv_at hl 3 rfl) ?_
    refine lv_aload_n hx hb dX1_limitYaw_78 rfl (lv_at hl 3 rfl) ?_
    refine get_ct_6 C hK X 0 rfl fl_X1_48 dX1_limitYaw_79 ?_
    refine lv_iconst (v := 4) hx hb dX1_limitYaw_82 (by decide) ?_
    refine lv_iadd hx hb dX1_limitYaw_83 ?_
    refine lv_sipush (v := 1000) hx hb dX1_limitYaw_84 (by decide) ?_
    refine s_mn C hl.1 wm_X1_111 (Nat.le_of_ble_eq_true rfl) (Nat.le_of_ble_eq_true rfl) ⟨Nat.zero_le _, Nat.zero_le _⟩ dX1_limitYaw_87 ?_
    refine put_ct_6 C hK X 0 rfl pl_X1_48 dX1_limitYaw_90 (fun H locs X => ?_)
    have X : Wd D A s.heap [(h, ctE (upd z 3 (mn ((z 3) + 4) 1000)) aw al), (aw, waE ty a0 a1 a2 a3), (a0, whE (upd w0 1 (mn (w0 1) ((mn (w0 1) (w1 1)) + (z 3)))) m0), (a1, whE (upd w1 1 (mn (w1 1) ((mn (w0 1) (w1 1)) + (z 3)))) m1), (a2, whE w2 m2), (a3, whE w3 m3)] H locs := X
    have e_0_0 : (f_X1_limitYaw_h z w0 w1) = (upd z 3 (mn ((z 3) + 4) 1000)) := by first | (rw [f_X1_limitYaw_h, if_neg c0_0]; done) | (rw [f_X1_limitYaw_h, if_neg c0_0]; rfl) | (simp only [f_X1_limitYaw_h, if_neg c0_0]; done)
    have e_2_0 : (f_X1_limitYaw_a0 z w0 w1) = (upd w0 1 (mn (w0 1) ((mn (w0 1) (w1 1)) + (z 3)))) := by first | (rw [f_X1_limitYaw_a0, if_neg c0_0]; done) | (rw [f_X1_limitYaw_a0, if_neg c0_0]; rfl) | (simp only [f_X1_limitYaw_a0, if_neg c0_0]; done)
    have e_3_0 : (f_X1_limitYaw_a1 z w0 w1) = (upd w1 1 (mn (w1 1) ((mn (w0 1) (w1 1)) + (z 3)))) := by first | (rw [f_X1_limitYaw_a1, if_neg c0_0]; done) | (rw [f_X1_limitYaw_a1, if_neg c0_0]; rfl) | (simp only [f_X1_limitYaw_a1, if_neg c0_0]; done)
    exact hret _ _ _ _ _ dX1_limitYaw_93 X (by rw [e_0_0, e_2_0, e_3_0])
  · refine lv_aload_n hx hb dX1_limitYaw_21 rfl (lv_at hl 0 rfl) ?_
    refine get_wh_2 C hK X 3 rfl fl_X1_156 dX1_limitYaw_22 ?_
    refine lv_if_ne (tgt := 36) hx hb dX1_limitYaw_25 (by decide) (fun c1_1 => ?_) (fun c1_1 => ?_)
    · refine lv_aload_n hx hb dX1_limitYaw_36 rfl (lv_at hl 1 rfl) ?_
      refine get_wh_1 C hK X 2 rfl fl_X1_159 dX1_limitYaw_37 ?_
      refine lv_aload_n hx hb dX1_limitYaw_40 rfl (lv_at hl 0 rfl) ?_
      refine get_wh_1 C hK X 3 rfl fl_X1_159 dX1_limitYaw_41 ?_
      refine s_mn C hl.1 wm_X1_111 (Nat.le_of_ble_eq_true rfl) (Nat.le_of_ble_eq_true rfl) ⟨Nat.zero_le _, Nat.zero_le _⟩ dX1_limitYaw_44 ?_
      refine lv_aload_n hx hb dX1_limitYaw_47 rfl (lv_at hl 2 rfl) ?_
      refine get_ct_6 C hK X 0 rfl fl_X1_48 dX1_limitYaw_48 ?_
      refine lv_iadd hx hb dX1_limitYaw_51 ?_
      refine lv_istore_n (lv' := [(3, .int ((mn (w0 1) (w1 1)) + (z 3))), (2, .ref a1), (1, .ref a0), (0, .ref h)]) hx hb dX1_limitYaw_52 rfl hl (by decide) rfl (fun ls hl => ?_)
      refine lv_aload_n hx hb dX1_limitYaw_53 rfl (lv_at hl 2 rfl) ?_
      refine lv_aload_n hx hb dX1_limitYaw_54 rfl (lv_at hl 2 rfl) ?_
      refine get_wh_1 C hK X 2 rfl fl_X1_159 dX1_limitYaw_55 ?_
      refine lv_iload_n hx hb dX1_limitYaw_58 rfl (lv_at hl 0 rfl) ?_
      refine s_mn C hl.1 wm_X1_111 (Nat.le_of_ble_eq_true rfl) (Nat.le_of_ble_eq_true rfl) ⟨Nat.zero_le _, Nat.zero_le _⟩ dX1_limitYaw_59 ?_
      refine put_wh_1 C hK X 2 rfl pl_X1_159 dX1_limitYaw_62 (fun H locs X => ?_)
      have X : Wd D A s.heap [(h, ctE z aw al), (aw, waE ty a0 a1 a2 a3), (a0, whE (upd w0 1 (mn (w0 1) ((mn (w0 1) (w1 1)) + (z 3)))) m0), (a1, whE w1 m1), (a2, whE w2 m2), (a3, whE w3 m3)] H locs := X
      refine lv_aload_n hx hb dX1_limitYaw_65 rfl (lv_at hl 1 rfl) ?_
      refine lv_aload_n hx hb dX1_limitYaw_66 rfl (lv_at hl 1 rfl) ?_
      refine get_wh_1 C hK X 3 rfl fl_X1_159 dX1_limitYaw_67 ?_
      refine lv_iload_n hx hb dX1_limitYaw_70 rfl (lv_at hl 0 rfl) ?_
      refine s_mn C hl.1 wm_X1_111 (Nat.le_of_ble_eq_true rfl) (Nat.le_of_ble_eq_true rfl) ⟨Nat.zero_le _, Nat.zero_le _⟩ dX1_limitYaw_71 ?_
      refine put_wh_1 C hK X 3 rfl pl_X1_159 dX1_limitYaw_74 (fun H locs X => ?_)
      have X : Wd D A s.heap [(h, ctE z aw al), (aw, waE ty a0 a1 a2 a3), (a0, whE (upd w0 1 (mn (w0 1) ((mn (w0 1) (w1 1)) + (z 3)))) m0), (a1, whE (upd w1 1 (mn (w1 1) ((mn (w0 1) (w1 1)) + (z 3)))) m1), (a2, whE w2 m2), (a3, whE w3 m3)] H locs := X
      refine lv_aload_n hx hb dX1_limitYaw_77 rfl (lv_at hl 3 rfl) ?_
      refine lv_aload_n hx hb dX1_limitYaw_78 rfl (lv_at hl 3 rfl) ?_
      refine get_ct_6 C hK X 0 rfl fl_X1_48 dX1_limitYaw_79 ?_
      refine lv_iconst (v := 4) hx hb dX1_limitYaw_82 (by decide) ?_
      refine lv_iadd hx hb dX1_limitYaw_83 ?_
      refine lv_sipush (v := 1000) hx hb dX1_limitYaw_84 (by decide) ?_
      refine s_mn C hl.1 wm_X1_111 (Nat.le_of_ble_eq_true rfl) (Nat.le_of_ble_eq_true rfl) ⟨Nat.zero_le _, Nat.zero_le _⟩ dX1_limitYaw_87 ?_
      refine put_ct_6 C hK X 0 rfl pl_X1_48 dX1_limitYaw_90 (fun H locs X => ?_)
      have X : Wd D A s.heap [(h, ctE (upd z 3 (mn ((z 3) + 4) 1000)) aw al), (aw, waE ty a0 a1 a2 a3), (a0, whE (upd w0 1 (mn (w0 1) ((mn (w0 1) (w1 1)) + (z 3)))) m0), (a1, whE (upd w1 1 (mn (w1 1) ((mn (w0 1) (w1 1)) + (z 3)))) m1), (a2, whE w2 m2), (a3, whE w3 m3)] H locs := X
      have e_0_0 : (f_X1_limitYaw_h z w0 w1) = (upd z 3 (mn ((z 3) + 4) 1000)) := by first | (rw [f_X1_limitYaw_h, if_pos c0_0, if_neg c1_1]; done) | (rw [f_X1_limitYaw_h, if_pos c0_0, if_neg c1_1]; rfl) | (simp only [f_X1_limitYaw_h, if_pos c0_0, if_neg c1_1]; done)
      have e_2_0 : (f_X1_limitYaw_a0 z w0 w1) = (upd w0 1 (mn (w0 1) ((mn (w0 1) (w1 1)) + (z 3)))) := by first | (rw [f_X1_limitYaw_a0, if_pos c0_0, if_neg c1_1]; done) | (rw [f_X1_limitYaw_a0, if_pos c0_0, if_neg c1_1]; rfl) | (simp only [f_X1_limitYaw_a0, if_pos c0_0, if_neg c1_1]; done)
      have e_3_0 : (f_X1_limitYaw_a1 z w0 w1) = (upd w1 1 (mn (w1 1) ((mn (w0 1) (w1 1)) + (z 3)))) := by first | (rw [f_X1_limitYaw_a1, if_pos c0_0, if_neg c1_1]; done) | (rw [f_X1_limitYaw_a1, if_pos c0_0, if_neg c1_1]; rfl) | (simp only [f_X1_limitYaw_a1, if_pos c0_0, if_neg c1_1]; done)
      exact hret _ _ _ _ _ dX1_limitYaw_93 X (by rw [e_0_0, e_2_0, e_3_0])
    · refine lv_aload_n hx hb dX1_limitYaw_28 rfl (lv_at hl 2 rfl) ?_
      refine lv_sipush (v := 150) hx hb dX1_limitYaw_29 (by decide) ?_
      refine put_ct_6 C hK X 0 rfl pl_X1_48 dX1_limitYaw_32 (fun H locs X => ?_)
      have X : Wd D A s.heap [(h, ctE (upd z 3 150) aw al), (aw, waE ty a0 a1 a2 a3), (a0, whE w0 m0), (a1, whE w1 m1), (a2, whE w2 m2), (a3, whE w3 m3)] H locs := X
      have e_0_0 : (f_X1_limitYaw_h z w0 w1) = (upd z 3 150) := by first | (rw [f_X1_limitYaw_h, if_pos c0_0, if_pos c1_1]; done) | (rw [f_X1_limitYaw_h, if_pos c0_0, if_pos c1_1]; rfl) | (simp only [f_X1_limitYaw_h, if_pos c0_0, if_pos c1_1]; done)
      have e_2_0 : (f_X1_limitYaw_a0 z w0 w1) = w0 := by first | (rw [f_X1_limitYaw_a0, if_pos c0_0, if_pos c1_1]; done) | (rw [f_X1_limitYaw_a0, if_pos c0_0, if_pos c1_1]; rfl) | (simp only [f_X1_limitYaw_a0, if_pos c0_0, if_pos c1_1]; done)
      have e_3_0 : (f_X1_limitYaw_a1 z w0 w1) = w1 := by first | (rw [f_X1_limitYaw_a1, if_pos c0_0, if_pos c1_1]; done) | (rw [f_X1_limitYaw_a1, if_pos c0_0, if_pos c1_1]; rfl) | (simp only [f_X1_limitYaw_a1, if_pos c0_0, if_pos c1_1]; done)
      exact hret _ _ _ _ _ dX1_limitYaw_35 X (by rw [e_0_0, e_2_0, e_3_0])
def f_X1_pump_h (z : F1) : F1 := (if (z 1) ≤ 0 then z else (upd (upd z 2 ((z 2) + 1)) 1 (mx ((z 1) - 20) 0)))
set_option maxHeartbeats 4000000 in
set_option maxRecDepth 100000 in
theorem c_X1_pump (l : Launch) (D : va_G) (ty : Nat → ClassId) (h : Nat) (aw : Nat) (al : Nat) (z : F1) : MC l D ty yX1_pump cX1_pump 1 none 1 [.ref h] [(h, ctE z aw al)] none [(h, ctE (f_X1_pump_h z) aw al)] := by
  refine mc_v (by decide +kernel) (Nat.le_of_ble_eq_true rfl) ?_
  intro p e s m args below meth c A Q ls C hK hA X hret hl
  have hx := C.1
  have hb := C.2.1
  have hl : lv_has ls 1 [(0, .ref h)] := hl
  have X : Wd D A s.heap [(h, ctE z aw al)] s.heap [] := X
  refine lv_aload_n hx hb dX1_pump_0 rfl (lv_at hl 0 rfl) ?_
  refine get_ct_4 C hK X 0 rfl fl_X1_45 dX1_pump_1 ?_
  refine lv_if_le (tgt := 32) hx hb dX1_pump_4 (by decide) (fun c0_0 => ?_) (fun c0_0 => ?_)
  · have e_0_0 : (f_X1_pump_h z) = z := by first | (rw [f_X1_pump_h, if_pos c0_0]; done) | (rw [f_X1_pump_h, if_pos c0_0]; rfl) | (simp only [f_X1_pump_h, if_pos c0_0]; done)
    exact hret _ _ _ _ _ dX1_pump_32 X (by rw [e_0_0])
  · refine lv_aload_n hx hb dX1_pump_7 rfl (lv_at hl 0 rfl) ?_
    refine lv_dup hx hb dX1_pump_8 rfl ?_
    refine get_ct_5 C hK X 0 rfl fl_X1_37 dX1_pump_9 ?_
    refine lv_iconst (v := 1) hx hb dX1_pump_12 (by decide) ?_
    refine lv_iadd hx hb dX1_pump_13 ?_
    refine put_ct_5 C hK X 0 rfl pl_X1_37 dX1_pump_14 (fun H locs X => ?_)
    have X : Wd D A s.heap [(h, ctE (upd z 2 ((z 2) + 1)) aw al)] H locs := X
    refine lv_aload_n hx hb dX1_pump_17 rfl (lv_at hl 0 rfl) ?_
    refine lv_aload_n hx hb dX1_pump_18 rfl (lv_at hl 0 rfl) ?_
    refine get_ct_4 C hK X 0 rfl fl_X1_45 dX1_pump_19 ?_
    refine s_eqi (y := (z 1)) (pk_un (by decide)) ?_
    refine lv_bipush (v := 20) hx hb dX1_pump_22 (by decide) ?_
    refine lv_isub hx hb dX1_pump_24 ?_
    refine lv_iconst (v := 0) hx hb dX1_pump_25 (by decide) ?_
    refine s_mx C hl.1 wm_X1_105 (Nat.le_of_ble_eq_true rfl) (Nat.le_of_ble_eq_true rfl) ⟨Nat.zero_le _, Nat.zero_le _⟩ dX1_pump_26 ?_
    refine put_ct_4 C hK X 0 rfl pl_X1_45 dX1_pump_29 (fun H locs X => ?_)
    have X : Wd D A s.heap [(h, ctE (upd (upd z 2 ((z 2) + 1)) 1 (mx ((z 1) - 20) 0)) aw al)] H locs := X
    have e_0_0 : (f_X1_pump_h z) = (upd (upd z 2 ((z 2) + 1)) 1 (mx ((z 1) - 20) 0)) := by first | (rw [f_X1_pump_h, if_neg c0_0]; done) | (rw [f_X1_pump_h, if_neg c0_0]; rfl) | (simp only [f_X1_pump_h, if_neg c0_0]; done)
    exact hret _ _ _ _ _ dX1_pump_32 X (by rw [e_0_0])
def v_X1_act_1 (z : F1) (w0 : F1) (w1 : F1) (w2 : F1) (w3 : F1) (f0 : F1) (f1 : F1) (f2 : F1) (f3 : F1) : F1 := (f_X1_followReference_h z (f_X1_measureWheels_a0 w0 f0) (f_X1_measureWheels_a1 w1 f1) (f_X1_measureWheels_a2 w2 f2) (f_X1_measureWheels_a3 w3 f3) (f_X1_measureWheels_m0 w0 f0) (f_X1_measureWheels_m1 w1 f1) (f_X1_measureWheels_m2 w2 f2) (f_X1_measureWheels_m3 w3 f3))
def v_X1_act_2 (z : F1) (w0 : F1) (w1 : F1) (w2 : F1) (w3 : F1) (f0 : F1) (f1 : F1) (f2 : F1) (f3 : F1) : F1 := (f_X1_estimateSlips_a0 (v_X1_act_1 z w0 w1 w2 w3 f0 f1 f2 f3) (f_X1_measureWheels_a0 w0 f0) (f_X1_measureWheels_m0 w0 f0))
theorem okm_X1_act_3 (z : F1) (w0 : F1) (w1 : F1) (w2 : F1) (w3 : F1) (f0 : F1) (f1 : F1) (f2 : F1) (f3 : F1) (hk0 : kpOK w0) : kpOK (v_X1_act_2 z w0 w1 w2 w3 f0 f1 f2 f3) := by
  exact (ok_X1_estimateSlips_a0 (v_X1_act_1 z w0 w1 w2 w3 f0 f1 f2 f3) (f_X1_measureWheels_a0 w0 f0) (f_X1_measureWheels_m0 w0 f0) (ok_X1_measureWheels_a0 w0 f0 hk0))
def v_X1_act_4 (z : F1) (w0 : F1) (w1 : F1) (w2 : F1) (w3 : F1) (f0 : F1) (f1 : F1) (f2 : F1) (f3 : F1) : F1 := (f_X1_estimateSlips_a1 (v_X1_act_1 z w0 w1 w2 w3 f0 f1 f2 f3) (f_X1_measureWheels_a1 w1 f1) (f_X1_measureWheels_m1 w1 f1))
theorem okm_X1_act_5 (z : F1) (w0 : F1) (w1 : F1) (w2 : F1) (w3 : F1) (f0 : F1) (f1 : F1) (f2 : F1) (f3 : F1) (hk1 : kpOK w1) : kpOK (v_X1_act_4 z w0 w1 w2 w3 f0 f1 f2 f3) := by
  exact (ok_X1_estimateSlips_a1 (v_X1_act_1 z w0 w1 w2 w3 f0 f1 f2 f3) (f_X1_measureWheels_a1 w1 f1) (f_X1_measureWheels_m1 w1 f1) (ok_X1_measureWheels_a1 w1 f1 hk1))
def v_X1_act_6 (z : F1) (w0 : F1) (w1 : F1) (w2 : F1) (w3 : F1) (f0 : F1) (f1 : F1) (f2 : F1) (f3 : F1) : F1 := (f_X1_estimateSlips_a2 (v_X1_act_1 z w0 w1 w2 w3 f0 f1 f2 f3) (f_X1_measureWheels_a2 w2 f2) (f_X1_measureWheels_m2 w2 f2))
theorem okm_X1_act_7 (z : F1) (w0 : F1) (w1 : F1) (w2 : F1) (w3 : F1) (f0 : F1) (f1 : F1) (f2 : F1) (f3 : F1) (hk2 : kpOK w2) : kpOK (v_X1_act_6 z w0 w1 w2 w3 f0 f1 f2 f3) := by
  exact (ok_X1_estimateSlips_a2 (v_X1_act_1 z w0 w1 w2 w3 f0 f1 f2 f3) (f_X1_measureWheels_a2 w2 f2) (f_X1_measureWheels_m2 w2 f2) (ok_X1_measureWheels_a2 w2 f2 hk2))
def v_X1_act_8 (z : F1) (w0 : F1) (w1 : F1) (w2 : F1) (w3 : F1) (f0 : F1) (f1 : F1) (f2 : F1) (f3 : F1) : F1 := (f_X1_estimateSlips_a3 (v_X1_act_1 z w0 w1 w2 w3 f0 f1 f2 f3) (f_X1_measureWheels_a3 w3 f3) (f_X1_measureWheels_m3 w3 f3))
theorem okm_X1_act_9 (z : F1) (w0 : F1) (w1 : F1) (w2 : F1) (w3 : F1) (f0 : F1) (f1 : F1) (f2 : F1) (f3 : F1) (hk3 : kpOK w3) : kpOK (v_X1_act_8 z w0 w1 w2 w3 f0 f1 f2 f3) := by
  exact (ok_X1_estimateSlips_a3 (v_X1_act_1 z w0 w1 w2 w3 f0 f1 f2 f3) (f_X1_measureWheels_a3 w3 f3) (f_X1_measureWheels_m3 w3 f3) (ok_X1_measureWheels_a3 w3 f3 hk3))
def v_X1_act_10 (z : F1) (w0 : F1) (w1 : F1) (w2 : F1) (w3 : F1) (f0 : F1) (f1 : F1) (f2 : F1) (f3 : F1) : F1 := (f_X1_suspectWheels_a0 (v_X1_act_1 z w0 w1 w2 w3 f0 f1 f2 f3) (v_X1_act_2 z w0 w1 w2 w3 f0 f1 f2 f3) (f_X1_measureWheels_m0 w0 f0))
theorem okm_X1_act_11 (z : F1) (w0 : F1) (w1 : F1) (w2 : F1) (w3 : F1) (f0 : F1) (f1 : F1) (f2 : F1) (f3 : F1) (hk0 : kpOK w0) : kpOK (v_X1_act_10 z w0 w1 w2 w3 f0 f1 f2 f3) := by
  exact (ok_X1_suspectWheels_a0 (v_X1_act_1 z w0 w1 w2 w3 f0 f1 f2 f3) (v_X1_act_2 z w0 w1 w2 w3 f0 f1 f2 f3) (f_X1_measureWheels_m0 w0 f0) (okm_X1_act_3 z w0 w1 w2 w3 f0 f1 f2 f3 hk0))
def v_X1_act_12 (z : F1) (w0 : F1) (w1 : F1) (w2 : F1) (w3 : F1) (f0 : F1) (f1 : F1) (f2 : F1) (f3 : F1) : F1 := (f_X1_suspectWheels_a1 (v_X1_act_1 z w0 w1 w2 w3 f0 f1 f2 f3) (v_X1_act_4 z w0 w1 w2 w3 f0 f1 f2 f3) (f_X1_measureWheels_m1 w1 f1))
theorem okm_X1_act_13 (z : F1) (w0 : F1) (w1 : F1) (w2 : F1) (w3 : F1) (f0 : F1) (f1 : F1) (f2 : F1) (f3 : F1) (hk1 : kpOK w1) : kpOK (v_X1_act_12 z w0 w1 w2 w3 f0 f1 f2 f3) := by
  exact (ok_X1_suspectWheels_a1 (v_X1_act_1 z w0 w1 w2 w3 f0 f1 f2 f3) (v_X1_act_4 z w0 w1 w2 w3 f0 f1 f2 f3) (f_X1_measureWheels_m1 w1 f1) (okm_X1_act_5 z w0 w1 w2 w3 f0 f1 f2 f3 hk1))
def v_X1_act_14 (z : F1) (w0 : F1) (w1 : F1) (w2 : F1) (w3 : F1) (f0 : F1) (f1 : F1) (f2 : F1) (f3 : F1) : F1 := (f_X1_suspectWheels_a2 (v_X1_act_1 z w0 w1 w2 w3 f0 f1 f2 f3) (v_X1_act_6 z w0 w1 w2 w3 f0 f1 f2 f3) (f_X1_measureWheels_m2 w2 f2))
theorem okm_X1_act_15 (z : F1) (w0 : F1) (w1 : F1) (w2 : F1) (w3 : F1) (f0 : F1) (f1 : F1) (f2 : F1) (f3 : F1) (hk2 : kpOK w2) : kpOK (v_X1_act_14 z w0 w1 w2 w3 f0 f1 f2 f3) := by
  exact (ok_X1_suspectWheels_a2 (v_X1_act_1 z w0 w1 w2 w3 f0 f1 f2 f3) (v_X1_act_6 z w0 w1 w2 w3 f0 f1 f2 f3) (f_X1_measureWheels_m2 w2 f2) (okm_X1_act_7 z w0 w1 w2 w3 f0 f1 f2 f3 hk2))
def v_X1_act_16 (z : F1) (w0 : F1) (w1 : F1) (w2 : F1) (w3 : F1) (f0 : F1) (f1 : F1) (f2 : F1) (f3 : F1) : F1 := (f_X1_suspectWheels_a3 (v_X1_act_1 z w0 w1 w2 w3 f0 f1 f2 f3) (v_X1_act_8 z w0 w1 w2 w3 f0 f1 f2 f3) (f_X1_measureWheels_m3 w3 f3))
theorem okm_X1_act_17 (z : F1) (w0 : F1) (w1 : F1) (w2 : F1) (w3 : F1) (f0 : F1) (f1 : F1) (f2 : F1) (f3 : F1) (hk3 : kpOK w3) : kpOK (v_X1_act_16 z w0 w1 w2 w3 f0 f1 f2 f3) := by
  exact (ok_X1_suspectWheels_a3 (v_X1_act_1 z w0 w1 w2 w3 f0 f1 f2 f3) (v_X1_act_8 z w0 w1 w2 w3 f0 f1 f2 f3) (f_X1_measureWheels_m3 w3 f3) (okm_X1_act_9 z w0 w1 w2 w3 f0 f1 f2 f3 hk3))
def v_X1_act_18 (fi : Nat) (lc : Nat) (z : F1) (w0 : F1) (w1 : F1) (w2 : F1) (w3 : F1) (f0 : F1) (f1 : F1) (f2 : F1) (f3 : F1) : Nat := (f_X1_suspectWheels_al_fi fi lc (v_X1_act_1 z w0 w1 w2 w3 f0 f1 f2 f3) (v_X1_act_2 z w0 w1 w2 w3 f0 f1 f2 f3) (v_X1_act_4 z w0 w1 w2 w3 f0 f1 f2 f3) (v_X1_act_6 z w0 w1 w2 w3 f0 f1 f2 f3) (v_X1_act_8 z w0 w1 w2 w3 f0 f1 f2 f3) (f_X1_measureWheels_m0 w0 f0) (f_X1_measureWheels_m1 w1 f1) (f_X1_measureWheels_m2 w2 f2) (f_X1_measureWheels_m3 w3 f3))
def v_X1_act_19 (lc : Nat) (z : F1) (w0 : F1) (w1 : F1) (w2 : F1) (w3 : F1) (f0 : F1) (f1 : F1) (f2 : F1) (f3 : F1) : Nat := (f_X1_suspectWheels_al_lc lc (v_X1_act_1 z w0 w1 w2 w3 f0 f1 f2 f3) (v_X1_act_2 z w0 w1 w2 w3 f0 f1 f2 f3) (v_X1_act_4 z w0 w1 w2 w3 f0 f1 f2 f3) (v_X1_act_6 z w0 w1 w2 w3 f0 f1 f2 f3) (v_X1_act_8 z w0 w1 w2 w3 f0 f1 f2 f3) (f_X1_measureWheels_m0 w0 f0) (f_X1_measureWheels_m1 w1 f1) (f_X1_measureWheels_m2 w2 f2) (f_X1_measureWheels_m3 w3 f3))
theorem okm_X1_act_20 (fi : Nat) (lc : Nat) (z : F1) (w0 : F1) (w1 : F1) (w2 : F1) (w3 : F1) (f0 : F1) (f1 : F1) (f2 : F1) (f3 : F1) (hg : lgOK fi lc) : lgOK (v_X1_act_18 fi lc z w0 w1 w2 w3 f0 f1 f2 f3) (v_X1_act_19 lc z w0 w1 w2 w3 f0 f1 f2 f3) := by
  exact (ok_X1_suspectWheels_al fi lc (v_X1_act_1 z w0 w1 w2 w3 f0 f1 f2 f3) (v_X1_act_2 z w0 w1 w2 w3 f0 f1 f2 f3) (v_X1_act_4 z w0 w1 w2 w3 f0 f1 f2 f3) (v_X1_act_6 z w0 w1 w2 w3 f0 f1 f2 f3) (v_X1_act_8 z w0 w1 w2 w3 f0 f1 f2 f3) (f_X1_measureWheels_m0 w0 f0) (f_X1_measureWheels_m1 w1 f1) (f_X1_measureWheels_m2 w2 f2) (f_X1_measureWheels_m3 w3 f3) hg)
def v_X1_act_21 (fi : Nat) (lc : Nat) (z : F1) (w0 : F1) (w1 : F1) (w2 : F1) (w3 : F1) (f0 : F1) (f1 : F1) (f2 : F1) (f3 : F1) (lt : F1) (T : Int32) : F1 := (f_X1_suspectWheels_t fi lc (v_X1_act_1 z w0 w1 w2 w3 f0 f1 f2 f3) (v_X1_act_2 z w0 w1 w2 w3 f0 f1 f2 f3) (v_X1_act_4 z w0 w1 w2 w3 f0 f1 f2 f3) (v_X1_act_6 z w0 w1 w2 w3 f0 f1 f2 f3) (v_X1_act_8 z w0 w1 w2 w3 f0 f1 f2 f3) (f_X1_measureWheels_m0 w0 f0) (f_X1_measureWheels_m1 w1 f1) (f_X1_measureWheels_m2 w2 f2) (f_X1_measureWheels_m3 w3 f3) lt T)
def v_X1_act_22 (fi : Nat) (lc : Nat) (z : F1) (w0 : F1) (w1 : F1) (w2 : F1) (w3 : F1) (f0 : F1) (f1 : F1) (f2 : F1) (f3 : F1) (lk : F1) : F1 := (f_X1_suspectWheels_k fi lc (v_X1_act_1 z w0 w1 w2 w3 f0 f1 f2 f3) (v_X1_act_2 z w0 w1 w2 w3 f0 f1 f2 f3) (v_X1_act_4 z w0 w1 w2 w3 f0 f1 f2 f3) (v_X1_act_6 z w0 w1 w2 w3 f0 f1 f2 f3) (v_X1_act_8 z w0 w1 w2 w3 f0 f1 f2 f3) (f_X1_measureWheels_m0 w0 f0) (f_X1_measureWheels_m1 w1 f1) (f_X1_measureWheels_m2 w2 f2) (f_X1_measureWheels_m3 w3 f3) lk)
def v_X1_act_23 (fi : Nat) (lc : Nat) (z : F1) (w0 : F1) (w1 : F1) (w2 : F1) (w3 : F1) (f0 : F1) (f1 : F1) (f2 : F1) (f3 : F1) (lv : F1) : F1 := (f_X1_suspectWheels_v fi lc (v_X1_act_1 z w0 w1 w2 w3 f0 f1 f2 f3) (v_X1_act_2 z w0 w1 w2 w3 f0 f1 f2 f3) (v_X1_act_4 z w0 w1 w2 w3 f0 f1 f2 f3) (v_X1_act_6 z w0 w1 w2 w3 f0 f1 f2 f3) (v_X1_act_8 z w0 w1 w2 w3 f0 f1 f2 f3) (f_X1_measureWheels_m0 w0 f0) (f_X1_measureWheels_m1 w1 f1) (f_X1_measureWheels_m2 w2 f2) (f_X1_measureWheels_m3 w3 f3) lv)
def v_X1_act_24 (z : F1) (w0 : F1) (w1 : F1) (w2 : F1) (w3 : F1) (f0 : F1) (f1 : F1) (f2 : F1) (f3 : F1) (dm : Int32) : F1 := (f_X1_choosePhases_a0 (v_X1_act_1 z w0 w1 w2 w3 f0 f1 f2 f3) (v_X1_act_10 z w0 w1 w2 w3 f0 f1 f2 f3) (v_X1_act_12 z w0 w1 w2 w3 f0 f1 f2 f3) (v_X1_act_14 z w0 w1 w2 w3 f0 f1 f2 f3) (v_X1_act_16 z w0 w1 w2 w3 f0 f1 f2 f3) dm)
theorem okm_X1_act_25 (z : F1) (w0 : F1) (w1 : F1) (w2 : F1) (w3 : F1) (f0 : F1) (f1 : F1) (f2 : F1) (f3 : F1) (dm : Int32) (hk0 : kpOK w0) : kpOK (v_X1_act_24 z w0 w1 w2 w3 f0 f1 f2 f3 dm) := by
  exact (ok_X1_choosePhases_a0 (v_X1_act_1 z w0 w1 w2 w3 f0 f1 f2 f3) (v_X1_act_10 z w0 w1 w2 w3 f0 f1 f2 f3) (v_X1_act_12 z w0 w1 w2 w3 f0 f1 f2 f3) (v_X1_act_14 z w0 w1 w2 w3 f0 f1 f2 f3) (v_X1_act_16 z w0 w1 w2 w3 f0 f1 f2 f3) dm (okm_X1_act_11 z w0 w1 w2 w3 f0 f1 f2 f3 hk0))
def v_X1_act_26 (z : F1) (w0 : F1) (w1 : F1) (w2 : F1) (w3 : F1) (f0 : F1) (f1 : F1) (f2 : F1) (f3 : F1) (dm : Int32) : F1 := (f_X1_choosePhases_a1 (v_X1_act_1 z w0 w1 w2 w3 f0 f1 f2 f3) (v_X1_act_10 z w0 w1 w2 w3 f0 f1 f2 f3) (v_X1_act_12 z w0 w1 w2 w3 f0 f1 f2 f3) (v_X1_act_14 z w0 w1 w2 w3 f0 f1 f2 f3) (v_X1_act_16 z w0 w1 w2 w3 f0 f1 f2 f3) dm)
theorem okm_X1_act_27 (z : F1) (w0 : F1) (w1 : F1) (w2 : F1) (w3 : F1) (f0 : F1) (f1 : F1) (f2 : F1) (f3 : F1) (dm : Int32) (hk1 : kpOK w1) : kpOK (v_X1_act_26 z w0 w1 w2 w3 f0 f1 f2 f3 dm) := by
  exact (ok_X1_choosePhases_a1 (v_X1_act_1 z w0 w1 w2 w3 f0 f1 f2 f3) (v_X1_act_10 z w0 w1 w2 w3 f0 f1 f2 f3) (v_X1_act_12 z w0 w1 w2 w3 f0 f1 f2 f3) (v_X1_act_14 z w0 w1 w2 w3 f0 f1 f2 f3) (v_X1_act_16 z w0 w1 w2 w3 f0 f1 f2 f3) dm (okm_X1_act_13 z w0 w1 w2 w3 f0 f1 f2 f3 hk1))
def v_X1_act_28 (z : F1) (w0 : F1) (w1 : F1) (w2 : F1) (w3 : F1) (f0 : F1) (f1 : F1) (f2 : F1) (f3 : F1) (dm : Int32) : F1 := (f_X1_choosePhases_a2 (v_X1_act_1 z w0 w1 w2 w3 f0 f1 f2 f3) (v_X1_act_10 z w0 w1 w2 w3 f0 f1 f2 f3) (v_X1_act_12 z w0 w1 w2 w3 f0 f1 f2 f3) (v_X1_act_14 z w0 w1 w2 w3 f0 f1 f2 f3) (v_X1_act_16 z w0 w1 w2 w3 f0 f1 f2 f3) dm)
theorem okm_X1_act_29 (z : F1) (w0 : F1) (w1 : F1) (w2 : F1) (w3 : F1) (f0 : F1) (f1 : F1) (f2 : F1) (f3 : F1) (dm : Int32) (hk2 : kpOK w2) : kpOK (v_X1_act_28 z w0 w1 w2 w3 f0 f1 f2 f3 dm) := by
  exact (ok_X1_choosePhases_a2 (v_X1_act_1 z w0 w1 w2 w3 f0 f1 f2 f3) (v_X1_act_10 z w0 w1 w2 w3 f0 f1 f2 f3) (v_X1_act_12 z w0 w1 w2 w3 f0 f1 f2 f3) (v_X1_act_14 z w0 w1 w2 w3 f0 f1 f2 f3) (v_X1_act_16 z w0 w1 w2 w3 f0 f1 f2 f3) dm (okm_X1_act_15 z w0 w1 w2 w3 f0 f1 f2 f3 hk2))
def v_X1_act_30 (z : F1) (w0 : F1) (w1 : F1) (w2 : F1) (w3 : F1) (f0 : F1) (f1 : F1) (f2 : F1) (f3 : F1) (dm : Int32) : F1 := (f_X1_choosePhases_a3 (v_X1_act_1 z w0 w1 w2 w3 f0 f1 f2 f3) (v_X1_act_10 z w0 w1 w2 w3 f0 f1 f2 f3) (v_X1_act_12 z w0 w1 w2 w3 f0 f1 f2 f3) (v_X1_act_14 z w0 w1 w2 w3 f0 f1 f2 f3) (v_X1_act_16 z w0 w1 w2 w3 f0 f1 f2 f3) dm)
theorem okm_X1_act_31 (z : F1) (w0 : F1) (w1 : F1) (w2 : F1) (w3 : F1) (f0 : F1) (f1 : F1) (f2 : F1) (f3 : F1) (dm : Int32) (hk3 : kpOK w3) : kpOK (v_X1_act_30 z w0 w1 w2 w3 f0 f1 f2 f3 dm) := by
  exact (ok_X1_choosePhases_a3 (v_X1_act_1 z w0 w1 w2 w3 f0 f1 f2 f3) (v_X1_act_10 z w0 w1 w2 w3 f0 f1 f2 f3) (v_X1_act_12 z w0 w1 w2 w3 f0 f1 f2 f3) (v_X1_act_14 z w0 w1 w2 w3 f0 f1 f2 f3) (v_X1_act_16 z w0 w1 w2 w3 f0 f1 f2 f3) dm (okm_X1_act_17 z w0 w1 w2 w3 f0 f1 f2 f3 hk3))
def v_X1_act_32 (fi : Nat) (lc : Nat) (z : F1) (w0 : F1) (w1 : F1) (w2 : F1) (w3 : F1) (f0 : F1) (f1 : F1) (f2 : F1) (f3 : F1) (dm : Int32) : Nat := (f_X1_enterPhases_al_fi (v_X1_act_18 fi lc z w0 w1 w2 w3 f0 f1 f2 f3) (v_X1_act_19 lc z w0 w1 w2 w3 f0 f1 f2 f3) (v_X1_act_24 z w0 w1 w2 w3 f0 f1 f2 f3 dm) (v_X1_act_26 z w0 w1 w2 w3 f0 f1 f2 f3 dm) (v_X1_act_28 z w0 w1 w2 w3 f0 f1 f2 f3 dm) (v_X1_act_30 z w0 w1 w2 w3 f0 f1 f2 f3 dm))
def v_X1_act_33 (lc : Nat) (z : F1) (w0 : F1) (w1 : F1) (w2 : F1) (w3 : F1) (f0 : F1) (f1 : F1) (f2 : F1) (f3 : F1) (dm : Int32) : Nat := (f_X1_enterPhases_al_lc (v_X1_act_19 lc z w0 w1 w2 w3 f0 f1 f2 f3) (v_X1_act_24 z w0 w1 w2 w3 f0 f1 f2 f3 dm) (v_X1_act_26 z w0 w1 w2 w3 f0 f1 f2 f3 dm) (v_X1_act_28 z w0 w1 w2 w3 f0 f1 f2 f3 dm) (v_X1_act_30 z w0 w1 w2 w3 f0 f1 f2 f3 dm))
theorem okm_X1_act_34 (fi : Nat) (lc : Nat) (z : F1) (w0 : F1) (w1 : F1) (w2 : F1) (w3 : F1) (f0 : F1) (f1 : F1) (f2 : F1) (f3 : F1) (dm : Int32) (hg : lgOK fi lc) : lgOK (v_X1_act_32 fi lc z w0 w1 w2 w3 f0 f1 f2 f3 dm) (v_X1_act_33 lc z w0 w1 w2 w3 f0 f1 f2 f3 dm) := by
  exact (ok_X1_enterPhases_al (v_X1_act_18 fi lc z w0 w1 w2 w3 f0 f1 f2 f3) (v_X1_act_19 lc z w0 w1 w2 w3 f0 f1 f2 f3) (v_X1_act_24 z w0 w1 w2 w3 f0 f1 f2 f3 dm) (v_X1_act_26 z w0 w1 w2 w3 f0 f1 f2 f3 dm) (v_X1_act_28 z w0 w1 w2 w3 f0 f1 f2 f3 dm) (v_X1_act_30 z w0 w1 w2 w3 f0 f1 f2 f3 dm) (okm_X1_act_20 fi lc z w0 w1 w2 w3 f0 f1 f2 f3 hg))
def v_X1_act_35 (fi : Nat) (lc : Nat) (z : F1) (w0 : F1) (w1 : F1) (w2 : F1) (w3 : F1) (f0 : F1) (f1 : F1) (f2 : F1) (f3 : F1) (lt : F1) (T : Int32) (dm : Int32) : F1 := (f_X1_enterPhases_t (v_X1_act_18 fi lc z w0 w1 w2 w3 f0 f1 f2 f3) (v_X1_act_19 lc z w0 w1 w2 w3 f0 f1 f2 f3) (v_X1_act_24 z w0 w1 w2 w3 f0 f1 f2 f3 dm) (v_X1_act_26 z w0 w1 w2 w3 f0 f1 f2 f3 dm) (v_X1_act_28 z w0 w1 w2 w3 f0 f1 f2 f3 dm) (v_X1_act_30 z w0 w1 w2 w3 f0 f1 f2 f3 dm) (v_X1_act_21 fi lc z w0 w1 w2 w3 f0 f1 f2 f3 lt T) T)
def v_X1_act_36 (fi : Nat) (lc : Nat) (z : F1) (w0 : F1) (w1 : F1) (w2 : F1) (w3 : F1) (f0 : F1) (f1 : F1) (f2 : F1) (f3 : F1) (lk : F1) (dm : Int32) : F1 := (f_X1_enterPhases_k (v_X1_act_18 fi lc z w0 w1 w2 w3 f0 f1 f2 f3) (v_X1_act_19 lc z w0 w1 w2 w3 f0 f1 f2 f3) (v_X1_act_24 z w0 w1 w2 w3 f0 f1 f2 f3 dm) (v_X1_act_26 z w0 w1 w2 w3 f0 f1 f2 f3 dm) (v_X1_act_28 z w0 w1 w2 w3 f0 f1 f2 f3 dm) (v_X1_act_30 z w0 w1 w2 w3 f0 f1 f2 f3 dm) (v_X1_act_22 fi lc z w0 w1 w2 w3 f0 f1 f2 f3 lk))
def v_X1_act_37 (fi : Nat) (lc : Nat) (z : F1) (w0 : F1) (w1 : F1) (w2 : F1) (w3 : F1) (f0 : F1) (f1 : F1) (f2 : F1) (f3 : F1) (lv : F1) (dm : Int32) : F1 := (f_X1_enterPhases_v (v_X1_act_18 fi lc z w0 w1 w2 w3 f0 f1 f2 f3) (v_X1_act_19 lc z w0 w1 w2 w3 f0 f1 f2 f3) (v_X1_act_24 z w0 w1 w2 w3 f0 f1 f2 f3 dm) (v_X1_act_26 z w0 w1 w2 w3 f0 f1 f2 f3 dm) (v_X1_act_28 z w0 w1 w2 w3 f0 f1 f2 f3 dm) (v_X1_act_30 z w0 w1 w2 w3 f0 f1 f2 f3 dm) (v_X1_act_23 fi lc z w0 w1 w2 w3 f0 f1 f2 f3 lv))
def v_X1_act_38 (z : F1) (w0 : F1) (w1 : F1) (w2 : F1) (w3 : F1) (f0 : F1) (f1 : F1) (f2 : F1) (f3 : F1) (dm : Int32) : F1 := (f_X1_movePressures_h (v_X1_act_1 z w0 w1 w2 w3 f0 f1 f2 f3) (v_X1_enterPhases_1 (v_X1_act_24 z w0 w1 w2 w3 f0 f1 f2 f3 dm)) (v_X1_enterPhases_13 (v_X1_act_26 z w0 w1 w2 w3 f0 f1 f2 f3 dm)) (v_X1_enterPhases_25 (v_X1_act_28 z w0 w1 w2 w3 f0 f1 f2 f3 dm)) (v_X1_enterPhases_37 (v_X1_act_30 z w0 w1 w2 w3 f0 f1 f2 f3 dm)))
def v_X1_act_39 (z : F1) (w0 : F1) (w1 : F1) (w2 : F1) (w3 : F1) (f0 : F1) (f1 : F1) (f2 : F1) (f3 : F1) (dm : Int32) : F1 := (f_X1_movePressures_a0 (v_X1_act_1 z w0 w1 w2 w3 f0 f1 f2 f3) (v_X1_enterPhases_1 (v_X1_act_24 z w0 w1 w2 w3 f0 f1 f2 f3 dm)) dm)
theorem okm_X1_act_40 (z : F1) (w0 : F1) (w1 : F1) (w2 : F1) (w3 : F1) (f0 : F1) (f1 : F1) (f2 : F1) (f3 : F1) (dm : Int32) (hk0 : kpOK w0) : kpOK (v_X1_act_39 z w0 w1 w2 w3 f0 f1 f2 f3 dm) := by
  exact (ok_X1_movePressures_a0 (v_X1_act_1 z w0 w1 w2 w3 f0 f1 f2 f3) (v_X1_enterPhases_1 (v_X1_act_24 z w0 w1 w2 w3 f0 f1 f2 f3 dm)) dm (ok_X1_enterPhases_a0 (v_X1_act_24 z w0 w1 w2 w3 f0 f1 f2 f3 dm) (okm_X1_act_25 z w0 w1 w2 w3 f0 f1 f2 f3 dm hk0)))
def v_X1_act_41 (z : F1) (w0 : F1) (w1 : F1) (w2 : F1) (w3 : F1) (f0 : F1) (f1 : F1) (f2 : F1) (f3 : F1) (dm : Int32) : F1 := (f_X1_movePressures_a1 (v_X1_act_1 z w0 w1 w2 w3 f0 f1 f2 f3) (v_X1_enterPhases_1 (v_X1_act_24 z w0 w1 w2 w3 f0 f1 f2 f3 dm)) (v_X1_enterPhases_13 (v_X1_act_26 z w0 w1 w2 w3 f0 f1 f2 f3 dm)) dm)
theorem okm_X1_act_42 (z : F1) (w0 : F1) (w1 : F1) (w2 : F1) (w3 : F1) (f0 : F1) (f1 : F1) (f2 : F1) (f3 : F1) (dm : Int32) (hk1 : kpOK w1) : kpOK (v_X1_act_41 z w0 w1 w2 w3 f0 f1 f2 f3 dm) := by
  exact (ok_X1_movePressures_a1 (v_X1_act_1 z w0 w1 w2 w3 f0 f1 f2 f3) (v_X1_enterPhases_1 (v_X1_act_24 z w0 w1 w2 w3 f0 f1 f2 f3 dm)) (v_X1_enterPhases_13 (v_X1_act_26 z w0 w1 w2 w3 f0 f1 f2 f3 dm)) dm (ok_X1_enterPhases_a1 (v_X1_act_26 z w0 w1 w2 w3 f0 f1 f2 f3 dm) (okm_X1_act_27 z w0 w1 w2 w3 f0 f1 f2 f3 dm hk1)))
def v_X1_act_43 (z : F1) (w0 : F1) (w1 : F1) (w2 : F1) (w3 : F1) (f0 : F1) (f1 : F1) (f2 : F1) (f3 : F1) (dm : Int32) : F1 := (f_X1_movePressures_a2 (v_X1_act_1 z w0 w1 w2 w3 f0 f1 f2 f3) (v_X1_enterPhases_1 (v_X1_act_24 z w0 w1 w2 w3 f0 f1 f2 f3 dm)) (v_X1_enterPhases_13 (v_X1_act_26 z w0 w1 w2 w3 f0 f1 f2 f3 dm)) (v_X1_enterPhases_25 (v_X1_act_28 z w0 w1 w2 w3 f0 f1 f2 f3 dm)) (v_X1_enterPhases_37 (v_X1_act_30 z w0 w1 w2 w3 f0 f1 f2 f3 dm)) dm)
theorem okm_X1_act_44 (z : F1) (w0 : F1) (w1 : F1) (w2 : F1) (w3 : F1) (f0 : F1) (f1 : F1) (f2 : F1) (f3 : F1) (dm : Int32) (hk2 : kpOK w2) : kpOK (v_X1_act_43 z w0 w1 w2 w3 f0 f1 f2 f3 dm) := by
  exact (ok_X1_movePressures_a2 (v_X1_act_1 z w0 w1 w2 w3 f0 f1 f2 f3) (v_X1_enterPhases_1 (v_X1_act_24 z w0 w1 w2 w3 f0 f1 f2 f3 dm)) (v_X1_enterPhases_13 (v_X1_act_26 z w0 w1 w2 w3 f0 f1 f2 f3 dm)) (v_X1_enterPhases_25 (v_X1_act_28 z w0 w1 w2 w3 f0 f1 f2 f3 dm)) (v_X1_enterPhases_37 (v_X1_act_30 z w0 w1 w2 w3 f0 f1 f2 f3 dm)) dm (ok_X1_enterPhases_a2 (v_X1_act_28 z w0 w1 w2 w3 f0 f1 f2 f3 dm) (okm_X1_act_29 z w0 w1 w2 w3 f0 f1 f2 f3 dm hk2)))
def v_X1_act_45 (z : F1) (w0 : F1) (w1 : F1) (w2 : F1) (w3 : F1) (f0 : F1) (f1 : F1) (f2 : F1) (f3 : F1) (dm : Int32) : F1 := (f_X1_movePressures_a3 (v_X1_act_1 z w0 w1 w2 w3 f0 f1 f2 f3) (v_X1_enterPhases_1 (v_X1_act_24 z w0 w1 w2 w3 f0 f1 f2 f3 dm)) (v_X1_enterPhases_13 (v_X1_act_26 z w0 w1 w2 w3 f0 f1 f2 f3 dm)) (v_X1_enterPhases_25 (v_X1_act_28 z w0 w1 w2 w3 f0 f1 f2 f3 dm)) (v_X1_enterPhases_37 (v_X1_act_30 z w0 w1 w2 w3 f0 f1 f2 f3 dm)) dm)
theorem okm_X1_act_46 (z : F1) (w0 : F1) (w1 : F1) (w2 : F1) (w3 : F1) (f0 : F1) (f1 : F1) (f2 : F1) (f3 : F1) (dm : Int32) (hk3 : kpOK w3) : kpOK (v_X1_act_45 z w0 w1 w2 w3 f0 f1 f2 f3 dm) := by
  exact (ok_X1_movePressures_a3 (v_X1_act_1 z w0 w1 w2 w3 f0 f1 f2 f3) (v_X1_enterPhases_1 (v_X1_act_24 z w0 w1 w2 w3 f0 f1 f2 f3 dm)) (v_X1_enterPhases_13 (v_X1_act_26 z w0 w1 w2 w3 f0 f1 f2 f3 dm)) (v_X1_enterPhases_25 (v_X1_act_28 z w0 w1 w2 w3 f0 f1 f2 f3 dm)) (v_X1_enterPhases_37 (v_X1_act_30 z w0 w1 w2 w3 f0 f1 f2 f3 dm)) dm (ok_X1_enterPhases_a3 (v_X1_act_30 z w0 w1 w2 w3 f0 f1 f2 f3 dm) (okm_X1_act_31 z w0 w1 w2 w3 f0 f1 f2 f3 dm hk3)))
def v_X1_act_47 (fi : Nat) (lc : Nat) (z : F1) (w0 : F1) (w1 : F1) (w2 : F1) (w3 : F1) (f0 : F1) (f1 : F1) (f2 : F1) (f3 : F1) (dm : Int32) : Nat := (f_X1_movePressures_al_fi (v_X1_act_32 fi lc z w0 w1 w2 w3 f0 f1 f2 f3 dm) (v_X1_act_33 lc z w0 w1 w2 w3 f0 f1 f2 f3 dm) (v_X1_act_1 z w0 w1 w2 w3 f0 f1 f2 f3) (v_X1_enterPhases_1 (v_X1_act_24 z w0 w1 w2 w3 f0 f1 f2 f3 dm)) (v_X1_enterPhases_13 (v_X1_act_26 z w0 w1 w2 w3 f0 f1 f2 f3 dm)) (v_X1_enterPhases_25 (v_X1_act_28 z w0 w1 w2 w3 f0 f1 f2 f3 dm)) (v_X1_enterPhases_37 (v_X1_act_30 z w0 w1 w2 w3 f0 f1 f2 f3 dm)))
def v_X1_act_48 (lc : Nat) (z : F1) (w0 : F1) (w1 : F1) (w2 : F1) (w3 : F1) (f0 : F1) (f1 : F1) (f2 : F1) (f3 : F1) (dm : Int32) : Nat := (f_X1_movePressures_al_lc (v_X1_act_33 lc z w0 w1 w2 w3 f0 f1 f2 f3 dm) (v_X1_act_1 z w0 w1 w2 w3 f0 f1 f2 f3) (v_X1_enterPhases_1 (v_X1_act_24 z w0 w1 w2 w3 f0 f1 f2 f3 dm)) (v_X1_enterPhases_13 (v_X1_act_26 z w0 w1 w2 w3 f0 f1 f2 f3 dm)) (v_X1_enterPhases_25 (v_X1_act_28 z w0 w1 w2 w3 f0 f1 f2 f3 dm)) (v_X1_enterPhases_37 (v_X1_act_30 z w0 w1 w2 w3 f0 f1 f2 f3 dm)))
theorem okm_X1_act_49 (fi : Nat) (lc : Nat) (z : F1) (w0 : F1) (w1 : F1) (w2 : F1) (w3 : F1) (f0 : F1) (f1 : F1) (f2 : F1) (f3 : F1) (dm : Int32) (hg : lgOK fi lc) : lgOK (v_X1_act_47 fi lc z w0 w1 w2 w3 f0 f1 f2 f3 dm) (v_X1_act_48 lc z w0 w1 w2 w3 f0 f1 f2 f3 dm) := by
  exact (ok_X1_movePressures_al (v_X1_act_32 fi lc z w0 w1 w2 w3 f0 f1 f2 f3 dm) (v_X1_act_33 lc z w0 w1 w2 w3 f0 f1 f2 f3 dm) (v_X1_act_1 z w0 w1 w2 w3 f0 f1 f2 f3) (v_X1_enterPhases_1 (v_X1_act_24 z w0 w1 w2 w3 f0 f1 f2 f3 dm)) (v_X1_enterPhases_13 (v_X1_act_26 z w0 w1 w2 w3 f0 f1 f2 f3 dm)) (v_X1_enterPhases_25 (v_X1_act_28 z w0 w1 w2 w3 f0 f1 f2 f3 dm)) (v_X1_enterPhases_37 (v_X1_act_30 z w0 w1 w2 w3 f0 f1 f2 f3 dm)) (okm_X1_act_34 fi lc z w0 w1 w2 w3 f0 f1 f2 f3 dm hg))
def v_X1_act_50 (fi : Nat) (lc : Nat) (z : F1) (w0 : F1) (w1 : F1) (w2 : F1) (w3 : F1) (f0 : F1) (f1 : F1) (f2 : F1) (f3 : F1) (lt : F1) (T : Int32) (dm : Int32) : F1 := (f_X1_movePressures_t (v_X1_act_32 fi lc z w0 w1 w2 w3 f0 f1 f2 f3 dm) (v_X1_act_33 lc z w0 w1 w2 w3 f0 f1 f2 f3 dm) (v_X1_act_1 z w0 w1 w2 w3 f0 f1 f2 f3) (v_X1_enterPhases_1 (v_X1_act_24 z w0 w1 w2 w3 f0 f1 f2 f3 dm)) (v_X1_enterPhases_13 (v_X1_act_26 z w0 w1 w2 w3 f0 f1 f2 f3 dm)) (v_X1_enterPhases_25 (v_X1_act_28 z w0 w1 w2 w3 f0 f1 f2 f3 dm)) (v_X1_enterPhases_37 (v_X1_act_30 z w0 w1 w2 w3 f0 f1 f2 f3 dm)) (v_X1_act_35 fi lc z w0 w1 w2 w3 f0 f1 f2 f3 lt T dm) T)
def v_X1_act_51 (fi : Nat) (lc : Nat) (z : F1) (w0 : F1) (w1 : F1) (w2 : F1) (w3 : F1) (f0 : F1) (f1 : F1) (f2 : F1) (f3 : F1) (lk : F1) (dm : Int32) : F1 := (f_X1_movePressures_k (v_X1_act_32 fi lc z w0 w1 w2 w3 f0 f1 f2 f3 dm) (v_X1_act_33 lc z w0 w1 w2 w3 f0 f1 f2 f3 dm) (v_X1_act_1 z w0 w1 w2 w3 f0 f1 f2 f3) (v_X1_enterPhases_1 (v_X1_act_24 z w0 w1 w2 w3 f0 f1 f2 f3 dm)) (v_X1_enterPhases_13 (v_X1_act_26 z w0 w1 w2 w3 f0 f1 f2 f3 dm)) (v_X1_enterPhases_25 (v_X1_act_28 z w0 w1 w2 w3 f0 f1 f2 f3 dm)) (v_X1_enterPhases_37 (v_X1_act_30 z w0 w1 w2 w3 f0 f1 f2 f3 dm)) (v_X1_act_36 fi lc z w0 w1 w2 w3 f0 f1 f2 f3 lk dm))
def v_X1_act_52 (fi : Nat) (lc : Nat) (z : F1) (w0 : F1) (w1 : F1) (w2 : F1) (w3 : F1) (f0 : F1) (f1 : F1) (f2 : F1) (f3 : F1) (lv : F1) (dm : Int32) : F1 := (f_X1_movePressures_v (v_X1_act_32 fi lc z w0 w1 w2 w3 f0 f1 f2 f3 dm) (v_X1_act_33 lc z w0 w1 w2 w3 f0 f1 f2 f3 dm) (v_X1_act_1 z w0 w1 w2 w3 f0 f1 f2 f3) (v_X1_enterPhases_1 (v_X1_act_24 z w0 w1 w2 w3 f0 f1 f2 f3 dm)) (v_X1_enterPhases_13 (v_X1_act_26 z w0 w1 w2 w3 f0 f1 f2 f3 dm)) (v_X1_enterPhases_25 (v_X1_act_28 z w0 w1 w2 w3 f0 f1 f2 f3 dm)) (v_X1_enterPhases_37 (v_X1_act_30 z w0 w1 w2 w3 f0 f1 f2 f3 dm)) (v_X1_act_37 fi lc z w0 w1 w2 w3 f0 f1 f2 f3 lv dm))
def v_X1_act_53 (z : F1) (w0 : F1) (w1 : F1) (w2 : F1) (w3 : F1) (f0 : F1) (f1 : F1) (f2 : F1) (f3 : F1) (dm : Int32) : F1 := (f_X1_limitYaw_h (v_X1_act_38 z w0 w1 w2 w3 f0 f1 f2 f3 dm) (v_X1_act_39 z w0 w1 w2 w3 f0 f1 f2 f3 dm) (v_X1_act_41 z w0 w1 w2 w3 f0 f1 f2 f3 dm))
def v_X1_act_54 (z : F1) (w0 : F1) (w1 : F1) (w2 : F1) (w3 : F1) (f0 : F1) (f1 : F1) (f2 : F1) (f3 : F1) (dm : Int32) : F1 := (f_X1_limitYaw_a0 (v_X1_act_38 z w0 w1 w2 w3 f0 f1 f2 f3 dm) (v_X1_act_39 z w0 w1 w2 w3 f0 f1 f2 f3 dm) (v_X1_act_41 z w0 w1 w2 w3 f0 f1 f2 f3 dm))
theorem okm_X1_act_55 (z : F1) (w0 : F1) (w1 : F1) (w2 : F1) (w3 : F1) (f0 : F1) (f1 : F1) (f2 : F1) (f3 : F1) (dm : Int32) (hk0 : kpOK w0) : kpOK (v_X1_act_54 z w0 w1 w2 w3 f0 f1 f2 f3 dm) := by
  exact (ok_X1_limitYaw_a0 (v_X1_act_38 z w0 w1 w2 w3 f0 f1 f2 f3 dm) (v_X1_act_39 z w0 w1 w2 w3 f0 f1 f2 f3 dm) (v_X1_act_41 z w0 w1 w2 w3 f0 f1 f2 f3 dm) (okm_X1_act_40 z w0 w1 w2 w3 f0 f1 f2 f3 dm hk0))
def v_X1_act_56 (z : F1) (w0 : F1) (w1 : F1) (w2 : F1) (w3 : F1) (f0 : F1) (f1 : F1) (f2 : F1) (f3 : F1) (dm : Int32) : F1 := (f_X1_limitYaw_a1 (v_X1_act_38 z w0 w1 w2 w3 f0 f1 f2 f3 dm) (v_X1_act_39 z w0 w1 w2 w3 f0 f1 f2 f3 dm) (v_X1_act_41 z w0 w1 w2 w3 f0 f1 f2 f3 dm))
theorem okm_X1_act_57 (z : F1) (w0 : F1) (w1 : F1) (w2 : F1) (w3 : F1) (f0 : F1) (f1 : F1) (f2 : F1) (f3 : F1) (dm : Int32) (hk1 : kpOK w1) : kpOK (v_X1_act_56 z w0 w1 w2 w3 f0 f1 f2 f3 dm) := by
  exact (ok_X1_limitYaw_a1 (v_X1_act_38 z w0 w1 w2 w3 f0 f1 f2 f3 dm) (v_X1_act_39 z w0 w1 w2 w3 f0 f1 f2 f3 dm) (v_X1_act_41 z w0 w1 w2 w3 f0 f1 f2 f3 dm) (okm_X1_act_42 z w0 w1 w2 w3 f0 f1 f2 f3 dm hk1))
def f_X1_act_h (z : F1) (w0 : F1) (w1 : F1) (w2 : F1) (w3 : F1) (f0 : F1) (f1 : F1) (f2 : F1) (f3 : F1) (dm : Int32) : F1 := (f_X1_pump_h (v_X1_act_53 z w0 w1 w2 w3 f0 f1 f2 f3 dm))
def f_X1_act_a0 (z : F1) (w0 : F1) (w1 : F1) (w2 : F1) (w3 : F1) (f0 : F1) (f1 : F1) (f2 : F1) (f3 : F1) (dm : Int32) : F1 := (v_X1_act_54 z w0 w1 w2 w3 f0 f1 f2 f3 dm)
def f_X1_act_a1 (z : F1) (w0 : F1) (w1 : F1) (w2 : F1) (w3 : F1) (f0 : F1) (f1 : F1) (f2 : F1) (f3 : F1) (dm : Int32) : F1 := (v_X1_act_56 z w0 w1 w2 w3 f0 f1 f2 f3 dm)
def f_X1_act_a2 (z : F1) (w0 : F1) (w1 : F1) (w2 : F1) (w3 : F1) (f0 : F1) (f1 : F1) (f2 : F1) (f3 : F1) (dm : Int32) : F1 := (v_X1_act_43 z w0 w1 w2 w3 f0 f1 f2 f3 dm)
def f_X1_act_a3 (z : F1) (w0 : F1) (w1 : F1) (w2 : F1) (w3 : F1) (f0 : F1) (f1 : F1) (f2 : F1) (f3 : F1) (dm : Int32) : F1 := (v_X1_act_45 z w0 w1 w2 w3 f0 f1 f2 f3 dm)
def f_X1_act_m0 (w0 : F1) (f0 : F1) : F1 := (f_X1_measureWheels_m0 w0 f0)
def f_X1_act_m1 (w1 : F1) (f1 : F1) : F1 := (f_X1_measureWheels_m1 w1 f1)
def f_X1_act_m2 (w2 : F1) (f2 : F1) : F1 := (f_X1_measureWheels_m2 w2 f2)
def f_X1_act_m3 (w3 : F1) (f3 : F1) : F1 := (f_X1_measureWheels_m3 w3 f3)
def f_X1_act_al_fi (fi : Nat) (lc : Nat) (z : F1) (w0 : F1) (w1 : F1) (w2 : F1) (w3 : F1) (f0 : F1) (f1 : F1) (f2 : F1) (f3 : F1) (dm : Int32) : Nat := (v_X1_act_47 fi lc z w0 w1 w2 w3 f0 f1 f2 f3 dm)
def f_X1_act_al_lc (lc : Nat) (z : F1) (w0 : F1) (w1 : F1) (w2 : F1) (w3 : F1) (f0 : F1) (f1 : F1) (f2 : F1) (f3 : F1) (dm : Int32) : Nat := (v_X1_act_48 lc z w0 w1 w2 w3 f0 f1 f2 f3 dm)
def f_X1_act_t (fi : Nat) (lc : Nat) (z : F1) (w0 : F1) (w1 : F1) (w2 : F1) (w3 : F1) (f0 : F1) (f1 : F1) (f2 : F1) (f3 : F1) (lt : F1) (T : Int32) (dm : Int32) : F1 := (v_X1_act_50 fi lc z w0 w1 w2 w3 f0 f1 f2 f3 lt T dm)
def f_X1_act_k (fi : Nat) (lc : Nat) (z : F1) (w0 : F1) (w1 : F1) (w2 : F1) (w3 : F1) (f0 : F1) (f1 : F1) (f2 : F1) (f3 : F1) (lk : F1) (dm : Int32) : F1 := (v_X1_act_51 fi lc z w0 w1 w2 w3 f0 f1 f2 f3 lk dm)
def f_X1_act_v (fi : Nat) (lc : Nat) (z : F1) (w0 : F1) (w1 : F1) (w2 : F1) (w3 : F1) (f0 : F1) (f1 : F1) (f2 : F1) (f3 : F1) (lv : F1) (dm : Int32) : F1 := (v_X1_act_52 fi lc z w0 w1 w2 w3 f0 f1 f2 f3 lv dm)
theorem ok_X1_act_a0 (z : F1) (w0 : F1) (w1 : F1) (w2 : F1) (w3 : F1) (f0 : F1) (f1 : F1) (f2 : F1) (f3 : F1) (dm : Int32) (hk0 : kpOK w0) : kpOK (f_X1_act_a0 z w0 w1 w2 w3 f0 f1 f2 f3 dm) := by
  (try simp only [f_X1_act_a0]); exact (okm_X1_act_55 z w0 w1 w2 w3 f0 f1 f2 f3 dm hk0)
theorem ok_X1_act_a1 (z : F1) (w0 : F1) (w1 : F1) (w2 : F1) (w3 : F1) (f0 : F1) (f1 : F1) (f2 : F1) (f3 : F1) (dm : Int32) (hk1 : kpOK w1) : kpOK (f_X1_act_a1 z w0 w1 w2 w3 f0 f1 f2 f3 dm) := by
  (try simp only [f_X1_act_a1]); exact (okm_X1_act_57 z w0 w1 w2 w3 f0 f1 f2 f3 dm hk1)
theorem ok_X1_act_a2 (z : F1) (w0 : F1) (w1 : F1) (w2 : F1) (w3 : F1) (f0 : F1) (f1 : F1) (f2 : F1) (f3 : F1) (dm : Int32) (hk2 : kpOK w2) : kpOK (f_X1_act_a2 z w0 w1 w2 w3 f0 f1 f2 f3 dm) := by
  (try simp only [f_X1_act_a2]); exact (okm_X1_act_44 z w0 w1 w2 w3 f0 f1 f2 f3 dm hk2)
theorem ok_X1_act_a3 (z : F1) (w0 : F1) (w1 : F1) (w2 : F1) (w3 : F1) (f0 : F1) (f1 : F1) (f2 : F1) (f3 : F1) (dm : Int32) (hk3 : kpOK w3) : kpOK (f_X1_act_a3 z w0 w1 w2 w3 f0 f1 f2 f3 dm) := by
  (try simp only [f_X1_act_a3]); exact (okm_X1_act_46 z w0 w1 w2 w3 f0 f1 f2 f3 dm hk3)
theorem ok_X1_act_al (fi : Nat) (lc : Nat) (z : F1) (w0 : F1) (w1 : F1) (w2 : F1) (w3 : F1) (f0 : F1) (f1 : F1) (f2 : F1) (f3 : F1) (dm : Int32) (hg : lgOK fi lc) : lgOK (f_X1_act_al_fi fi lc z w0 w1 w2 w3 f0 f1 f2 f3 dm) (f_X1_act_al_lc lc z w0 w1 w2 w3 f0 f1 f2 f3 dm) := by
  (try simp only [f_X1_act_al_fi, f_X1_act_al_lc]); exact (okm_X1_act_49 fi lc z w0 w1 w2 w3 f0 f1 f2 f3 dm hg)
set_option maxHeartbeats 4000000 in
set_option maxRecDepth 100000 in
theorem c_X1_act (l : Launch) (D : va_G) (ty : Nat → ClassId) (h : Nat) (aw : Nat) (al : Nat) (a0 : Nat) (a1 : Nat) (a2 : Nat) (a3 : Nat) (m0 : Nat) (m1 : Nat) (m2 : Nat) (m3 : Nat) (t : Nat) (k : Nat) (v : Nat) (fi : Nat) (lc : Nat) (z : F1) (w0 : F1) (w1 : F1) (w2 : F1) (w3 : F1) (f0 : F1) (f1 : F1) (f2 : F1) (f3 : F1) (lt : F1) (lk : F1) (lv : F1) (T : Int32) (dm : Int32) (hk0 : kpOK w0) (hk1 : kpOK w1) (hk2 : kpOK w2) (hk3 : kpOK w3) (hg : lgOK fi lc) : MC l D ty yX1_act cX1_act 3 none 4 [.ref h, .int T, .int dm] [(h, ctE z aw al), (aw, waE ty a0 a1 a2 a3), (a0, whE w0 m0), (a1, whE w1 m1), (a2, whE w2 m2), (a3, whE w3 m3), (m0, arE ty 5 f0), (m1, arE ty 5 f1), (m2, arE ty 5 f2), (m3, arE ty 5 f3), (al, loE fi lc t k v), (t, arE ty 40 lt), (k, arE ty 40 lk), (v, arE ty 40 lv)] none [(h, ctE (f_X1_act_h z w0 w1 w2 w3 f0 f1 f2 f3 dm) aw al), (aw, waE ty a0 a1 a2 a3), (a0, whE (f_X1_act_a0 z w0 w1 w2 w3 f0 f1 f2 f3 dm) m0), (a1, whE (f_X1_act_a1 z w0 w1 w2 w3 f0 f1 f2 f3 dm) m1), (a2, whE (f_X1_act_a2 z w0 w1 w2 w3 f0 f1 f2 f3 dm) m2), (a3, whE (f_X1_act_a3 z w0 w1 w2 w3 f0 f1 f2 f3 dm) m3), (m0, arE ty 5 (f_X1_act_m0 w0 f0)), (m1, arE ty 5 (f_X1_act_m1 w1 f1)), (m2, arE ty 5 (f_X1_act_m2 w2 f2)), (m3, arE ty 5 (f_X1_act_m3 w3 f3)), (al, loE (f_X1_act_al_fi fi lc z w0 w1 w2 w3 f0 f1 f2 f3 dm) (f_X1_act_al_lc lc z w0 w1 w2 w3 f0 f1 f2 f3 dm) t k v), (t, arE ty 40 (f_X1_act_t fi lc z w0 w1 w2 w3 f0 f1 f2 f3 lt T dm)), (k, arE ty 40 (f_X1_act_k fi lc z w0 w1 w2 w3 f0 f1 f2 f3 lk dm)), (v, arE ty 40 (f_X1_act_v fi lc z w0 w1 w2 w3 f0 f1 f2 f3 lv dm))] := by
  refine mc_v (by decide +kernel) (Nat.le_of_ble_eq_true rfl) ?_
  intro p e s m args below meth c A Q ls C hK hA X hret hl
  have hx := C.1
  have hb := C.2.1
  have hl : lv_has ls 3 [(0, .ref h), (1, .int T), (2, .int dm)] := hl
  have X : Wd D A s.heap [(h, ctE z aw al), (aw, waE ty a0 a1 a2 a3), (a0, whE w0 m0), (a1, whE w1 m1), (a2, whE w2 m2), (a3, whE w3 m3), (m0, arE ty 5 f0), (m1, arE ty 5 f1), (m2, arE ty 5 f2), (m3, arE ty 5 f3), (al, loE fi lc t k v), (t, arE ty 40 lt), (k, arE ty 40 lk), (v, arE ty 40 lv)] s.heap [] := X
  refine lv_aload_n hx hb dX1_act_0 rfl (lv_at hl 0 rfl) ?_
  refine s_cVv (ws' := [(h, ctE z aw al), (aw, waE ty a0 a1 a2 a3), (a0, whE (f_X1_measureWheels_a0 w0 f0) m0), (a1, whE (f_X1_measureWheels_a1 w1 f1) m1), (a2, whE (f_X1_measureWheels_a2 w2 f2) m2), (a3, whE (f_X1_measureWheels_a3 w3 f3) m3), (m0, arE ty 5 (f_X1_measureWheels_m0 w0 f0)), (m1, arE ty 5 (f_X1_measureWheels_m1 w1 f1)), (m2, arE ty 5 (f_X1_measureWheels_m2 w2 f2)), (m3, arE ty 5 (f_X1_measureWheels_m3 w3 f3)), (al, loE fi lc t k v), (t, arE ty 40 lt), (k, arE ty 40 lk), (v, arE ty 40 lv)]) C hK hA X (c_X1_measureWheels l D ty h aw al a0 a1 a2 a3 m0 m1 m2 m3 z w0 w1 w2 w3 f0 f1 f2 f3 hk0 hk1 hk2 hk3) [0, 1, 2, 3, 4, 5, 6, 7, 8, 9] (pk_c rfl (pk_c rfl (pk_c rfl (pk_c rfl (pk_c rfl (pk_c rfl (pk_c rfl (pk_c rfl (pk_c rfl (pk_c rfl pk_n)))))))))) rfl (pk_c rfl (pk_c rfl (pk_c rfl (pk_c rfl (pk_c rfl (pk_c rfl (pk_c rfl (pk_c rfl (pk_c rfl (pk_c rfl pk_n)))))))))) (em_t (em_t (em_t (em_t (em_t (em_t (em_t (em_t (em_t (em_t (em_f (em_f (em_f (em_f em_n)))))))))))))) rfl ml_X1_measureWheels wm_X1_61 (q0 := 0) rfl rfl rfl ⟨Nat.le_of_ble_eq_true rfl, Nat.le_of_ble_eq_true rfl⟩ ⟨Nat.zero_le _, Nat.zero_le _⟩ hl.1 rfl (Nat.le_of_ble_eq_true rfl) dX1_act_1 (fun H locs X => ?_)
  refine lv_aload_n hx hb dX1_act_4 rfl (lv_at hl 0 rfl) ?_
  refine s_cVv (ws' := [(h, ctE (v_X1_act_1 z w0 w1 w2 w3 f0 f1 f2 f3) aw al), (aw, waE ty a0 a1 a2 a3), (a0, whE (f_X1_measureWheels_a0 w0 f0) m0), (a1, whE (f_X1_measureWheels_a1 w1 f1) m1), (a2, whE (f_X1_measureWheels_a2 w2 f2) m2), (a3, whE (f_X1_measureWheels_a3 w3 f3) m3), (m0, arE ty 5 (f_X1_measureWheels_m0 w0 f0)), (m1, arE ty 5 (f_X1_measureWheels_m1 w1 f1)), (m2, arE ty 5 (f_X1_measureWheels_m2 w2 f2)), (m3, arE ty 5 (f_X1_measureWheels_m3 w3 f3)), (al, loE fi lc t k v), (t, arE ty 40 lt), (k, arE ty 40 lk), (v, arE ty 40 lv)]) C hK hA X (c_X1_followReference l D ty h aw al a0 a1 a2 a3 m0 m1 m2 m3 z (f_X1_measureWheels_a0 w0 f0) (f_X1_measureWheels_a1 w1 f1) (f_X1_measureWheels_a2 w2 f2) (f_X1_measureWheels_a3 w3 f3) (f_X1_measureWheels_m0 w0 f0) (f_X1_measureWheels_m1 w1 f1) (f_X1_measureWheels_m2 w2 f2) (f_X1_measureWheels_m3 w3 f3) (ok_X1_measureWheels_a0 w0 f0 hk0) (ok_X1_measureWheels_a1 w1 f1 hk1) (ok_X1_measureWheels_a2 w2 f2 hk2) (ok_X1_measureWheels_a3 w3 f3 hk3)) [0, 1, 2, 3, 4, 5, 6, 7, 8, 9] (pk_c rfl (pk_c rfl (pk_c rfl (pk_c rfl (pk_c rfl (pk_c rfl (pk_c rfl (pk_c rfl (pk_c rfl (pk_c rfl pk_n)))))))))) rfl (pk_c rfl (pk_c rfl (pk_c rfl (pk_c rfl (pk_c rfl (pk_c rfl (pk_c rfl (pk_c rfl (pk_c rfl (pk_c rfl pk_n)))))))))) (em_t (em_t (em_t (em_t (em_t (em_t (em_t (em_t (em_t (em_t (em_f (em_f (em_f (em_f em_n)))))))))))))) rfl ml_X1_followReference wm_X1_64 (q0 := 0) rfl rfl rfl ⟨Nat.le_of_ble_eq_true rfl, Nat.le_of_ble_eq_true rfl⟩ ⟨Nat.zero_le _, Nat.zero_le _⟩ hl.1 rfl (Nat.le_of_ble_eq_true rfl) dX1_act_5 (fun H locs X => ?_)
  refine lv_aload_n hx hb dX1_act_8 rfl (lv_at hl 0 rfl) ?_
  refine s_cVv (ws' := [(h, ctE (v_X1_act_1 z w0 w1 w2 w3 f0 f1 f2 f3) aw al), (aw, waE ty a0 a1 a2 a3), (a0, whE (v_X1_act_2 z w0 w1 w2 w3 f0 f1 f2 f3) m0), (a1, whE (v_X1_act_4 z w0 w1 w2 w3 f0 f1 f2 f3) m1), (a2, whE (v_X1_act_6 z w0 w1 w2 w3 f0 f1 f2 f3) m2), (a3, whE (v_X1_act_8 z w0 w1 w2 w3 f0 f1 f2 f3) m3), (m0, arE ty 5 (f_X1_measureWheels_m0 w0 f0)), (m1, arE ty 5 (f_X1_measureWheels_m1 w1 f1)), (m2, arE ty 5 (f_X1_measureWheels_m2 w2 f2)), (m3, arE ty 5 (f_X1_measureWheels_m3 w3 f3)), (al, loE fi lc t k v), (t, arE ty 40 lt), (k, arE ty 40 lk), (v, arE ty 40 lv)]) C hK hA X (c_X1_estimateSlips l D ty h aw al a0 a1 a2 a3 m0 m1 m2 m3 (v_X1_act_1 z w0 w1 w2 w3 f0 f1 f2 f3) (f_X1_measureWheels_a0 w0 f0) (f_X1_measureWheels_a1 w1 f1) (f_X1_measureWheels_a2 w2 f2) (f_X1_measureWheels_a3 w3 f3) (f_X1_measureWheels_m0 w0 f0) (f_X1_measureWheels_m1 w1 f1) (f_X1_measureWheels_m2 w2 f2) (f_X1_measureWheels_m3 w3 f3) (ok_X1_measureWheels_a0 w0 f0 hk0) (ok_X1_measureWheels_a1 w1 f1 hk1) (ok_X1_measureWheels_a2 w2 f2 hk2) (ok_X1_measureWheels_a3 w3 f3 hk3)) [0, 1, 2, 3, 4, 5, 6, 7, 8, 9] (pk_c rfl (pk_c rfl (pk_c rfl (pk_c rfl (pk_c rfl (pk_c rfl (pk_c rfl (pk_c rfl (pk_c rfl (pk_c rfl pk_n)))))))))) rfl (pk_c rfl (pk_c rfl (pk_c rfl (pk_c rfl (pk_c rfl (pk_c rfl (pk_c rfl (pk_c rfl (pk_c rfl (pk_c rfl pk_n)))))))))) (em_t (em_t (em_t (em_t (em_t (em_t (em_t (em_t (em_t (em_t (em_f (em_f (em_f (em_f em_n)))))))))))))) rfl ml_X1_estimateSlips wm_X1_67 (q0 := 0) rfl rfl rfl ⟨Nat.le_of_ble_eq_true rfl, Nat.le_of_ble_eq_true rfl⟩ ⟨Nat.zero_le _, Nat.zero_le _⟩ hl.1 rfl (Nat.le_of_ble_eq_true rfl) dX1_act_9 (fun H locs X => ?_)
  refine lv_aload_n hx hb dX1_act_12 rfl (lv_at hl 0 rfl) ?_
  refine lv_iload_n hx hb dX1_act_13 rfl (lv_at hl 1 rfl) ?_
  refine s_cVv (ws' := [(h, ctE (v_X1_act_1 z w0 w1 w2 w3 f0 f1 f2 f3) aw al), (aw, waE ty a0 a1 a2 a3), (a0, whE (v_X1_act_10 z w0 w1 w2 w3 f0 f1 f2 f3) m0), (a1, whE (v_X1_act_12 z w0 w1 w2 w3 f0 f1 f2 f3) m1), (a2, whE (v_X1_act_14 z w0 w1 w2 w3 f0 f1 f2 f3) m2), (a3, whE (v_X1_act_16 z w0 w1 w2 w3 f0 f1 f2 f3) m3), (m0, arE ty 5 (f_X1_measureWheels_m0 w0 f0)), (m1, arE ty 5 (f_X1_measureWheels_m1 w1 f1)), (m2, arE ty 5 (f_X1_measureWheels_m2 w2 f2)), (m3, arE ty 5 (f_X1_measureWheels_m3 w3 f3)), (al, loE (v_X1_act_18 fi lc z w0 w1 w2 w3 f0 f1 f2 f3) (v_X1_act_19 lc z w0 w1 w2 w3 f0 f1 f2 f3) t k v), (t, arE ty 40 (v_X1_act_21 fi lc z w0 w1 w2 w3 f0 f1 f2 f3 lt T)), (k, arE ty 40 (v_X1_act_22 fi lc z w0 w1 w2 w3 f0 f1 f2 f3 lk)), (v, arE ty 40 (v_X1_act_23 fi lc z w0 w1 w2 w3 f0 f1 f2 f3 lv))]) C hK hA X (c_X1_suspectWheels l D ty h aw al a0 a1 a2 a3 m0 m1 m2 m3 t k v fi lc (v_X1_act_1 z w0 w1 w2 w3 f0 f1 f2 f3) (v_X1_act_2 z w0 w1 w2 w3 f0 f1 f2 f3) (v_X1_act_4 z w0 w1 w2 w3 f0 f1 f2 f3) (v_X1_act_6 z w0 w1 w2 w3 f0 f1 f2 f3) (v_X1_act_8 z w0 w1 w2 w3 f0 f1 f2 f3) (f_X1_measureWheels_m0 w0 f0) (f_X1_measureWheels_m1 w1 f1) (f_X1_measureWheels_m2 w2 f2) (f_X1_measureWheels_m3 w3 f3) lt lk lv T (okm_X1_act_3 z w0 w1 w2 w3 f0 f1 f2 f3 hk0) (okm_X1_act_5 z w0 w1 w2 w3 f0 f1 f2 f3 hk1) (okm_X1_act_7 z w0 w1 w2 w3 f0 f1 f2 f3 hk2) (okm_X1_act_9 z w0 w1 w2 w3 f0 f1 f2 f3 hk3) hg) [0, 1, 2, 3, 4, 5, 6, 7, 8, 9, 10, 11, 12, 13] (pk_c rfl (pk_c rfl (pk_c rfl (pk_c rfl (pk_c rfl (pk_c rfl (pk_c rfl (pk_c rfl (pk_c rfl (pk_c rfl (pk_c rfl (pk_c rfl (pk_c rfl (pk_c rfl pk_n)))))))))))))) rfl (pk_c rfl (pk_c rfl (pk_c rfl (pk_c rfl (pk_c rfl (pk_c rfl (pk_c rfl (pk_c rfl (pk_c rfl (pk_c rfl (pk_c rfl (pk_c rfl (pk_c rfl (pk_c rfl pk_n)))))))))))))) (em_t (em_t (em_t (em_t (em_t (em_t (em_t (em_t (em_t (em_t (em_t (em_t (em_t (em_t em_n)))))))))))))) rfl ml_X1_suspectWheels wm_X1_70 (q0 := 0) rfl rfl rfl ⟨Nat.le_of_ble_eq_true rfl, Nat.le_of_ble_eq_true rfl⟩ ⟨Nat.zero_le _, Nat.zero_le _⟩ hl.1 rfl (Nat.le_of_ble_eq_true rfl) dX1_act_14 (fun H locs X => ?_)
  refine lv_aload_n hx hb dX1_act_17 rfl (lv_at hl 0 rfl) ?_
  refine lv_iload_n hx hb dX1_act_18 rfl (lv_at hl 2 rfl) ?_
  refine s_cVv (ws' := [(h, ctE (v_X1_act_1 z w0 w1 w2 w3 f0 f1 f2 f3) aw al), (aw, waE ty a0 a1 a2 a3), (a0, whE (v_X1_act_24 z w0 w1 w2 w3 f0 f1 f2 f3 dm) m0), (a1, whE (v_X1_act_26 z w0 w1 w2 w3 f0 f1 f2 f3 dm) m1), (a2, whE (v_X1_act_28 z w0 w1 w2 w3 f0 f1 f2 f3 dm) m2), (a3, whE (v_X1_act_30 z w0 w1 w2 w3 f0 f1 f2 f3 dm) m3), (m0, arE ty 5 (f_X1_measureWheels_m0 w0 f0)), (m1, arE ty 5 (f_X1_measureWheels_m1 w1 f1)), (m2, arE ty 5 (f_X1_measureWheels_m2 w2 f2)), (m3, arE ty 5 (f_X1_measureWheels_m3 w3 f3)), (al, loE (v_X1_act_18 fi lc z w0 w1 w2 w3 f0 f1 f2 f3) (v_X1_act_19 lc z w0 w1 w2 w3 f0 f1 f2 f3) t k v), (t, arE ty 40 (v_X1_act_21 fi lc z w0 w1 w2 w3 f0 f1 f2 f3 lt T)), (k, arE ty 40 (v_X1_act_22 fi lc z w0 w1 w2 w3 f0 f1 f2 f3 lk)), (v, arE ty 40 (v_X1_act_23 fi lc z w0 w1 w2 w3 f0 f1 f2 f3 lv))]) C hK hA X (c_X1_choosePhases l D ty h aw al a0 a1 a2 a3 m0 m1 m2 m3 (v_X1_act_1 z w0 w1 w2 w3 f0 f1 f2 f3) (v_X1_act_10 z w0 w1 w2 w3 f0 f1 f2 f3) (v_X1_act_12 z w0 w1 w2 w3 f0 f1 f2 f3) (v_X1_act_14 z w0 w1 w2 w3 f0 f1 f2 f3) (v_X1_act_16 z w0 w1 w2 w3 f0 f1 f2 f3) dm) [0, 1, 2, 3, 4, 5] (pk_c rfl (pk_c rfl (pk_c rfl (pk_c rfl (pk_c rfl (pk_c rfl pk_n)))))) rfl (pk_c rfl (pk_c rfl (pk_c rfl (pk_c rfl (pk_c rfl (pk_c rfl pk_n)))))) (em_t (em_t (em_t (em_t (em_t (em_t (em_f (em_f (em_f (em_f (em_f (em_f (em_f (em_f em_n)))))))))))))) rfl ml_X1_choosePhases wm_X1_73 (q0 := 0) rfl rfl rfl ⟨Nat.le_of_ble_eq_true rfl, Nat.le_of_ble_eq_true rfl⟩ ⟨Nat.zero_le _, Nat.zero_le _⟩ hl.1 rfl (Nat.le_of_ble_eq_true rfl) dX1_act_19 (fun H locs X => ?_)
  refine lv_aload_n hx hb dX1_act_22 rfl (lv_at hl 0 rfl) ?_
  refine lv_iload_n hx hb dX1_act_23 rfl (lv_at hl 1 rfl) ?_
  refine s_cVv (ws' := [(h, ctE (v_X1_act_1 z w0 w1 w2 w3 f0 f1 f2 f3) aw al), (aw, waE ty a0 a1 a2 a3), (a0, whE (v_X1_enterPhases_1 (v_X1_act_24 z w0 w1 w2 w3 f0 f1 f2 f3 dm)) m0), (a1, whE (v_X1_enterPhases_13 (v_X1_act_26 z w0 w1 w2 w3 f0 f1 f2 f3 dm)) m1), (a2, whE (v_X1_enterPhases_25 (v_X1_act_28 z w0 w1 w2 w3 f0 f1 f2 f3 dm)) m2), (a3, whE (v_X1_enterPhases_37 (v_X1_act_30 z w0 w1 w2 w3 f0 f1 f2 f3 dm)) m3), (m0, arE ty 5 (f_X1_measureWheels_m0 w0 f0)), (m1, arE ty 5 (f_X1_measureWheels_m1 w1 f1)), (m2, arE ty 5 (f_X1_measureWheels_m2 w2 f2)), (m3, arE ty 5 (f_X1_measureWheels_m3 w3 f3)), (al, loE (v_X1_act_32 fi lc z w0 w1 w2 w3 f0 f1 f2 f3 dm) (v_X1_act_33 lc z w0 w1 w2 w3 f0 f1 f2 f3 dm) t k v), (t, arE ty 40 (v_X1_act_35 fi lc z w0 w1 w2 w3 f0 f1 f2 f3 lt T dm)), (k, arE ty 40 (v_X1_act_36 fi lc z w0 w1 w2 w3 f0 f1 f2 f3 lk dm)), (v, arE ty 40 (v_X1_act_37 fi lc z w0 w1 w2 w3 f0 f1 f2 f3 lv dm))]) C hK hA X (c_X1_enterPhases l D ty h aw al a0 a1 a2 a3 m0 m1 m2 m3 t k v (v_X1_act_18 fi lc z w0 w1 w2 w3 f0 f1 f2 f3) (v_X1_act_19 lc z w0 w1 w2 w3 f0 f1 f2 f3) (v_X1_act_1 z w0 w1 w2 w3 f0 f1 f2 f3) (v_X1_act_24 z w0 w1 w2 w3 f0 f1 f2 f3 dm) (v_X1_act_26 z w0 w1 w2 w3 f0 f1 f2 f3 dm) (v_X1_act_28 z w0 w1 w2 w3 f0 f1 f2 f3 dm) (v_X1_act_30 z w0 w1 w2 w3 f0 f1 f2 f3 dm) (v_X1_act_21 fi lc z w0 w1 w2 w3 f0 f1 f2 f3 lt T) (v_X1_act_22 fi lc z w0 w1 w2 w3 f0 f1 f2 f3 lk) (v_X1_act_23 fi lc z w0 w1 w2 w3 f0 f1 f2 f3 lv) T (okm_X1_act_20 fi lc z w0 w1 w2 w3 f0 f1 f2 f3 hg)) [0, 1, 2, 3, 4, 5, 10, 11, 12, 13] (pk_c rfl (pk_c rfl (pk_c rfl (pk_c rfl (pk_c rfl (pk_c rfl (pk_c rfl (pk_c rfl (pk_c rfl (pk_c rfl pk_n)))))))))) rfl (pk_c rfl (pk_c rfl (pk_c rfl (pk_c rfl (pk_c rfl (pk_c rfl (pk_c rfl (pk_c rfl (pk_c rfl (pk_c rfl pk_n)))))))))) (em_t (em_t (em_t (em_t (em_t (em_t (em_f (em_f (em_f (em_f (em_t (em_t (em_t (em_t em_n)))))))))))))) rfl ml_X1_enterPhases wm_X1_76 (q0 := 0) rfl rfl rfl ⟨Nat.le_of_ble_eq_true rfl, Nat.le_of_ble_eq_true rfl⟩ ⟨Nat.zero_le _, Nat.zero_le _⟩ hl.1 rfl (Nat.le_of_ble_eq_true rfl) dX1_act_24 (fun H locs X => ?_)
  refine lv_aload_n hx hb dX1_act_27 rfl (lv_at hl 0 rfl) ?_
  refine lv_iload_n hx hb dX1_act_28 rfl (lv_at hl 1 rfl) ?_
  refine lv_iload_n hx hb dX1_act_29 rfl (lv_at hl 2 rfl) ?_
  refine s_cVv (ws' := [(h, ctE (v_X1_act_38 z w0 w1 w2 w3 f0 f1 f2 f3 dm) aw al), (aw, waE ty a0 a1 a2 a3), (a0, whE (v_X1_act_39 z w0 w1 w2 w3 f0 f1 f2 f3 dm) m0), (a1, whE (v_X1_act_41 z w0 w1 w2 w3 f0 f1 f2 f3 dm) m1), (a2, whE (v_X1_act_43 z w0 w1 w2 w3 f0 f1 f2 f3 dm) m2), (a3, whE (v_X1_act_45 z w0 w1 w2 w3 f0 f1 f2 f3 dm) m3), (m0, arE ty 5 (f_X1_measureWheels_m0 w0 f0)), (m1, arE ty 5 (f_X1_measureWheels_m1 w1 f1)), (m2, arE ty 5 (f_X1_measureWheels_m2 w2 f2)), (m3, arE ty 5 (f_X1_measureWheels_m3 w3 f3)), (al, loE (v_X1_act_47 fi lc z w0 w1 w2 w3 f0 f1 f2 f3 dm) (v_X1_act_48 lc z w0 w1 w2 w3 f0 f1 f2 f3 dm) t k v), (t, arE ty 40 (v_X1_act_50 fi lc z w0 w1 w2 w3 f0 f1 f2 f3 lt T dm)), (k, arE ty 40 (v_X1_act_51 fi lc z w0 w1 w2 w3 f0 f1 f2 f3 lk dm)), (v, arE ty 40 (v_X1_act_52 fi lc z w0 w1 w2 w3 f0 f1 f2 f3 lv dm))]) C hK hA X (c_X1_movePressures l D ty h aw al a0 a1 a2 a3 m0 m1 m2 m3 t k v (v_X1_act_32 fi lc z w0 w1 w2 w3 f0 f1 f2 f3 dm) (v_X1_act_33 lc z w0 w1 w2 w3 f0 f1 f2 f3 dm) (v_X1_act_1 z w0 w1 w2 w3 f0 f1 f2 f3) (v_X1_enterPhases_1 (v_X1_act_24 z w0 w1 w2 w3 f0 f1 f2 f3 dm)) (v_X1_enterPhases_13 (v_X1_act_26 z w0 w1 w2 w3 f0 f1 f2 f3 dm)) (v_X1_enterPhases_25 (v_X1_act_28 z w0 w1 w2 w3 f0 f1 f2 f3 dm)) (v_X1_enterPhases_37 (v_X1_act_30 z w0 w1 w2 w3 f0 f1 f2 f3 dm)) (v_X1_act_35 fi lc z w0 w1 w2 w3 f0 f1 f2 f3 lt T dm) (v_X1_act_36 fi lc z w0 w1 w2 w3 f0 f1 f2 f3 lk dm) (v_X1_act_37 fi lc z w0 w1 w2 w3 f0 f1 f2 f3 lv dm) T dm (okm_X1_act_34 fi lc z w0 w1 w2 w3 f0 f1 f2 f3 dm hg)) [0, 1, 2, 3, 4, 5, 10, 11, 12, 13] (pk_c rfl (pk_c rfl (pk_c rfl (pk_c rfl (pk_c rfl (pk_c rfl (pk_c rfl (pk_c rfl (pk_c rfl (pk_c rfl pk_n)))))))))) rfl (pk_c rfl (pk_c rfl (pk_c rfl (pk_c rfl (pk_c rfl (pk_c rfl (pk_c rfl (pk_c rfl (pk_c rfl (pk_c rfl pk_n)))))))))) (em_t (em_t (em_t (em_t (em_t (em_t (em_f (em_f (em_f (em_f (em_t (em_t (em_t (em_t em_n)))))))))))))) rfl ml_X1_movePressures wm_X1_79 (q0 := 0) rfl rfl rfl ⟨Nat.le_of_ble_eq_true rfl, Nat.le_of_ble_eq_true rfl⟩ ⟨Nat.zero_le _, Nat.zero_le _⟩ hl.1 rfl (Nat.le_of_ble_eq_true rfl) dX1_act_30 (fun H locs X => ?_)
  refine lv_aload_n hx hb dX1_act_33 rfl (lv_at hl 0 rfl) ?_
  refine s_cVv (ws' := [(h, ctE (v_X1_act_53 z w0 w1 w2 w3 f0 f1 f2 f3 dm) aw al), (aw, waE ty a0 a1 a2 a3), (a0, whE (v_X1_act_54 z w0 w1 w2 w3 f0 f1 f2 f3 dm) m0), (a1, whE (v_X1_act_56 z w0 w1 w2 w3 f0 f1 f2 f3 dm) m1), (a2, whE (v_X1_act_43 z w0 w1 w2 w3 f0 f1 f2 f3 dm) m2), (a3, whE (v_X1_act_45 z w0 w1 w2 w3 f0 f1 f2 f3 dm) m3), (m0, arE ty 5 (f_X1_measureWheels_m0 w0 f0)), (m1, arE ty 5 (f_X1_measureWheels_m1 w1 f1)), (m2, arE ty 5 (f_X1_measureWheels_m2 w2 f2)), (m3, arE ty 5 (f_X1_measureWheels_m3 w3 f3)), (al, loE (v_X1_act_47 fi lc z w0 w1 w2 w3 f0 f1 f2 f3 dm) (v_X1_act_48 lc z w0 w1 w2 w3 f0 f1 f2 f3 dm) t k v), (t, arE ty 40 (v_X1_act_50 fi lc z w0 w1 w2 w3 f0 f1 f2 f3 lt T dm)), (k, arE ty 40 (v_X1_act_51 fi lc z w0 w1 w2 w3 f0 f1 f2 f3 lk dm)), (v, arE ty 40 (v_X1_act_52 fi lc z w0 w1 w2 w3 f0 f1 f2 f3 lv dm))]) C hK hA X (c_X1_limitYaw l D ty h aw al a0 a1 a2 a3 m0 m1 m2 m3 (v_X1_act_38 z w0 w1 w2 w3 f0 f1 f2 f3 dm) (v_X1_act_39 z w0 w1 w2 w3 f0 f1 f2 f3 dm) (v_X1_act_41 z w0 w1 w2 w3 f0 f1 f2 f3 dm) (v_X1_act_43 z w0 w1 w2 w3 f0 f1 f2 f3 dm) (v_X1_act_45 z w0 w1 w2 w3 f0 f1 f2 f3 dm)) [0, 1, 2, 3, 4, 5] (pk_c rfl (pk_c rfl (pk_c rfl (pk_c rfl (pk_c rfl (pk_c rfl pk_n)))))) rfl (pk_c rfl (pk_c rfl (pk_c rfl (pk_c rfl (pk_c rfl (pk_c rfl pk_n)))))) (em_t (em_t (em_t (em_t (em_t (em_t (em_f (em_f (em_f (em_f (em_f (em_f (em_f (em_f em_n)))))))))))))) rfl ml_X1_limitYaw wm_X1_83 (q0 := 0) rfl rfl rfl ⟨Nat.le_of_ble_eq_true rfl, Nat.le_of_ble_eq_true rfl⟩ ⟨Nat.zero_le _, Nat.zero_le _⟩ hl.1 rfl (Nat.le_of_ble_eq_true rfl) dX1_act_34 (fun H locs X => ?_)
  refine lv_aload_n hx hb dX1_act_37 rfl (lv_at hl 0 rfl) ?_
  refine s_cVv (ws' := [(h, ctE (f_X1_pump_h (v_X1_act_53 z w0 w1 w2 w3 f0 f1 f2 f3 dm)) aw al), (aw, waE ty a0 a1 a2 a3), (a0, whE (v_X1_act_54 z w0 w1 w2 w3 f0 f1 f2 f3 dm) m0), (a1, whE (v_X1_act_56 z w0 w1 w2 w3 f0 f1 f2 f3 dm) m1), (a2, whE (v_X1_act_43 z w0 w1 w2 w3 f0 f1 f2 f3 dm) m2), (a3, whE (v_X1_act_45 z w0 w1 w2 w3 f0 f1 f2 f3 dm) m3), (m0, arE ty 5 (f_X1_measureWheels_m0 w0 f0)), (m1, arE ty 5 (f_X1_measureWheels_m1 w1 f1)), (m2, arE ty 5 (f_X1_measureWheels_m2 w2 f2)), (m3, arE ty 5 (f_X1_measureWheels_m3 w3 f3)), (al, loE (v_X1_act_47 fi lc z w0 w1 w2 w3 f0 f1 f2 f3 dm) (v_X1_act_48 lc z w0 w1 w2 w3 f0 f1 f2 f3 dm) t k v), (t, arE ty 40 (v_X1_act_50 fi lc z w0 w1 w2 w3 f0 f1 f2 f3 lt T dm)), (k, arE ty 40 (v_X1_act_51 fi lc z w0 w1 w2 w3 f0 f1 f2 f3 lk dm)), (v, arE ty 40 (v_X1_act_52 fi lc z w0 w1 w2 w3 f0 f1 f2 f3 lv dm))]) C hK hA X (c_X1_pump l D ty h aw al (v_X1_act_53 z w0 w1 w2 w3 f0 f1 f2 f3 dm)) [0] (pk_c rfl pk_n) rfl (pk_c rfl pk_n) (em_t (em_f (em_f (em_f (em_f (em_f (em_f (em_f (em_f (em_f (em_f (em_f (em_f (em_f em_n)))))))))))))) rfl ml_X1_pump wm_X1_86 (q0 := 0) rfl rfl rfl ⟨Nat.le_of_ble_eq_true rfl, Nat.le_of_ble_eq_true rfl⟩ ⟨Nat.zero_le _, Nat.zero_le _⟩ hl.1 rfl (Nat.le_of_ble_eq_true rfl) dX1_act_38 (fun H locs X => ?_)
  have e_0_0 : (f_X1_act_h z w0 w1 w2 w3 f0 f1 f2 f3 dm) = (f_X1_pump_h (v_X1_act_53 z w0 w1 w2 w3 f0 f1 f2 f3 dm)) := by first | (rw [f_X1_act_h]; done) | (rw [f_X1_act_h]; rfl) | (simp only [f_X1_act_h]; done)
  have e_2_0 : (f_X1_act_a0 z w0 w1 w2 w3 f0 f1 f2 f3 dm) = (v_X1_act_54 z w0 w1 w2 w3 f0 f1 f2 f3 dm) := by first | (rw [f_X1_act_a0]; done) | (rw [f_X1_act_a0]; rfl) | (simp only [f_X1_act_a0]; done)
  have e_3_0 : (f_X1_act_a1 z w0 w1 w2 w3 f0 f1 f2 f3 dm) = (v_X1_act_56 z w0 w1 w2 w3 f0 f1 f2 f3 dm) := by first | (rw [f_X1_act_a1]; done) | (rw [f_X1_act_a1]; rfl) | (simp only [f_X1_act_a1]; done)
  have e_4_0 : (f_X1_act_a2 z w0 w1 w2 w3 f0 f1 f2 f3 dm) = (v_X1_act_43 z w0 w1 w2 w3 f0 f1 f2 f3 dm) := by first | (rw [f_X1_act_a2]; done) | (rw [f_X1_act_a2]; rfl) | (simp only [f_X1_act_a2]; done)
  have e_5_0 : (f_X1_act_a3 z w0 w1 w2 w3 f0 f1 f2 f3 dm) = (v_X1_act_45 z w0 w1 w2 w3 f0 f1 f2 f3 dm) := by first | (rw [f_X1_act_a3]; done) | (rw [f_X1_act_a3]; rfl) | (simp only [f_X1_act_a3]; done)
  have e_6_1 : (f_X1_act_m0 w0 f0) = (f_X1_measureWheels_m0 w0 f0) := by first | (rw [f_X1_act_m0]; done) | (rw [f_X1_act_m0]; rfl) | (simp only [f_X1_act_m0]; done)
  have e_7_1 : (f_X1_act_m1 w1 f1) = (f_X1_measureWheels_m1 w1 f1) := by first | (rw [f_X1_act_m1]; done) | (rw [f_X1_act_m1]; rfl) | (simp only [f_X1_act_m1]; done)
  have e_8_1 : (f_X1_act_m2 w2 f2) = (f_X1_measureWheels_m2 w2 f2) := by first | (rw [f_X1_act_m2]; done) | (rw [f_X1_act_m2]; rfl) | (simp only [f_X1_act_m2]; done)
  have e_9_1 : (f_X1_act_m3 w3 f3) = (f_X1_measureWheels_m3 w3 f3) := by first | (rw [f_X1_act_m3]; done) | (rw [f_X1_act_m3]; rfl) | (simp only [f_X1_act_m3]; done)
  have e_10_0 : (f_X1_act_al_fi fi lc z w0 w1 w2 w3 f0 f1 f2 f3 dm) = (v_X1_act_47 fi lc z w0 w1 w2 w3 f0 f1 f2 f3 dm) := by first | (rw [f_X1_act_al_fi]; done) | (rw [f_X1_act_al_fi]; rfl) | (simp only [f_X1_act_al_fi]; done)
  have e_10_1 : (f_X1_act_al_lc lc z w0 w1 w2 w3 f0 f1 f2 f3 dm) = (v_X1_act_48 lc z w0 w1 w2 w3 f0 f1 f2 f3 dm) := by first | (rw [f_X1_act_al_lc]; done) | (rw [f_X1_act_al_lc]; rfl) | (simp only [f_X1_act_al_lc]; done)
  have e_11_1 : (f_X1_act_t fi lc z w0 w1 w2 w3 f0 f1 f2 f3 lt T dm) = (v_X1_act_50 fi lc z w0 w1 w2 w3 f0 f1 f2 f3 lt T dm) := by first | (rw [f_X1_act_t]; done) | (rw [f_X1_act_t]; rfl) | (simp only [f_X1_act_t]; done)
  have e_12_1 : (f_X1_act_k fi lc z w0 w1 w2 w3 f0 f1 f2 f3 lk dm) = (v_X1_act_51 fi lc z w0 w1 w2 w3 f0 f1 f2 f3 lk dm) := by first | (rw [f_X1_act_k]; done) | (rw [f_X1_act_k]; rfl) | (simp only [f_X1_act_k]; done)
  have e_13_1 : (f_X1_act_v fi lc z w0 w1 w2 w3 f0 f1 f2 f3 lv dm) = (v_X1_act_52 fi lc z w0 w1 w2 w3 f0 f1 f2 f3 lv dm) := by first | (rw [f_X1_act_v]; done) | (rw [f_X1_act_v]; rfl) | (simp only [f_X1_act_v]; done)
  exact hret _ _ _ _ _ dX1_act_41 X (by rw [e_0_0, e_2_0, e_3_0, e_4_0, e_5_0, e_6_1, e_7_1, e_8_1, e_9_1, e_10_0, e_10_1, e_11_1, e_12_1, e_13_1])
def f_X1_startAt_h (z : F1) (V : Int32) : F1 := (upd (upd (upd (upd z 0 V) 1 0) 3 150) 5 0)
def f_X1_startAt_a0 (w0 : F1) (V : Int32) : F1 := (f_X5_startAt_h w0 V)
def f_X1_startAt_a1 (w1 : F1) (V : Int32) : F1 := (f_X5_startAt_h w1 V)
def f_X1_startAt_a2 (w2 : F1) (V : Int32) : F1 := (f_X5_startAt_h w2 V)
def f_X1_startAt_a3 (w3 : F1) (V : Int32) : F1 := (f_X5_startAt_h w3 V)
theorem ok_X1_startAt_a0 (w0 : F1) (V : Int32) : kpOK (f_X1_startAt_a0 w0 V) := by
  (try simp only [f_X1_startAt_a0]); exact (ok_X5_startAt_h w0 V)
theorem ok_X1_startAt_a1 (w1 : F1) (V : Int32) : kpOK (f_X1_startAt_a1 w1 V) := by
  (try simp only [f_X1_startAt_a1]); exact (ok_X5_startAt_h w1 V)
theorem ok_X1_startAt_a2 (w2 : F1) (V : Int32) : kpOK (f_X1_startAt_a2 w2 V) := by
  (try simp only [f_X1_startAt_a2]); exact (ok_X5_startAt_h w2 V)
theorem ok_X1_startAt_a3 (w3 : F1) (V : Int32) : kpOK (f_X1_startAt_a3 w3 V) := by
  (try simp only [f_X1_startAt_a3]); exact (ok_X5_startAt_h w3 V)
set_option maxHeartbeats 4000000 in
set_option maxRecDepth 100000 in
theorem c_X1_startAt (l : Launch) (D : va_G) (ty : Nat → ClassId) (h : Nat) (aw : Nat) (al : Nat) (a0 : Nat) (a1 : Nat) (a2 : Nat) (a3 : Nat) (m0 : Nat) (m1 : Nat) (m2 : Nat) (m3 : Nat) (z : F1) (w0 : F1) (w1 : F1) (w2 : F1) (w3 : F1) (V : Int32) : MC l D ty yX1_startAt cX1_startAt 3 none 1 [.ref h, .int V] [(h, ctE z aw al), (aw, waE ty a0 a1 a2 a3), (a0, whE w0 m0), (a1, whE w1 m1), (a2, whE w2 m2), (a3, whE w3 m3)] none [(h, ctE (f_X1_startAt_h z V) aw al), (aw, waE ty a0 a1 a2 a3), (a0, whE (f_X1_startAt_a0 w0 V) m0), (a1, whE (f_X1_startAt_a1 w1 V) m1), (a2, whE (f_X1_startAt_a2 w2 V) m2), (a3, whE (f_X1_startAt_a3 w3 V) m3)] := by
  refine mc_v (by decide +kernel) (Nat.le_of_ble_eq_true rfl) ?_
  intro p e s m args below meth c A Q ls C hK hA X hret hl
  have hx := C.1
  have hb := C.2.1
  have hl : lv_has ls 3 [(0, .ref h), (1, .int V)] := hl
  have X : Wd D A s.heap [(h, ctE z aw al), (aw, waE ty a0 a1 a2 a3), (a0, whE w0 m0), (a1, whE w1 m1), (a2, whE w2 m2), (a3, whE w3 m3)] s.heap [] := X
  refine lv_iconst (v := 0) hx hb dX1_startAt_0 (by decide) ?_
  refine lv_istore_n (lv' := [(2, .int 0), (0, .ref h), (1, .int V)]) hx hb dX1_startAt_1 rfl hl (by decide) rfl (fun ls hl => ?_)
  refine lv_iload_n hx hb dX1_startAt_2 rfl (lv_at hl 0 rfl) ?_
  refine lv_iconst (v := 4) hx hb dX1_startAt_3 (by decide) ?_
  refine lv_icmp_ge (tgt := 23) hx hb dX1_startAt_4 (by decide) (fun c0 => absurd c0 (by decide)) (fun _ => ?_)
  refine lv_aload_n hx hb dX1_startAt_7 rfl (lv_at hl 1 rfl) ?_
  refine get_ct_0 C hK X 0 rfl fl_X1_11 dX1_startAt_8 ?_
  refine lv_iload_n hx hb dX1_startAt_11 rfl (lv_at hl 0 rfl) ?_
  refine s_aald (t0 := 2) (b := a0) C hK X 1 rfl rfl (vp_in_nI (n := 0) (by decide) (by decide)) rfl dX1_startAt_12 ?_
  refine lv_iload_n hx hb dX1_startAt_13 rfl (lv_at hl 2 rfl) ?_
  refine s_cVv (ws' := [(h, ctE z aw al), (aw, waE ty a0 a1 a2 a3), (a0, whE (f_X5_startAt_h w0 V) m0), (a1, whE w1 m1), (a2, whE w2 m2), (a3, whE w3 m3)]) C hK hA X (c_X5_startAt l D ty a0 m0 w0 V) [2] (pk_c rfl pk_n) rfl (pk_c rfl pk_n) (em_f (em_f (em_t (em_f (em_f (em_f em_n)))))) rfl ml_X5_startAt wm_X1_41 (q0 := 0) rfl rfl rfl ⟨Nat.le_of_ble_eq_true rfl, Nat.le_of_ble_eq_true rfl⟩ ⟨Nat.zero_le _, Nat.zero_le _⟩ hl.1 rfl (Nat.le_of_ble_eq_true rfl) dX1_startAt_14 (fun H locs X => ?_)
  refine lv_iinc (v := 1) (lv' := [(2, .int 1), (0, .ref h), (1, .int V)]) hx hb dX1_startAt_17 hl (k := 0) rfl (by decide) (by decide) rfl (fun ls hl => ?_)
  refine lv_goto (tgt := 2) hx hb dX1_startAt_20 (by decide) ?_
  refine lv_iload_n hx hb dX1_startAt_2 rfl (lv_at hl 0 rfl) ?_
  refine lv_iconst (v := 4) hx hb dX1_startAt_3 (by decide) ?_
  refine lv_icmp_ge (tgt := 23) hx hb dX1_startAt_4 (by decide) (fun c0 => absurd c0 (by decide)) (fun _ => ?_)
  refine lv_aload_n hx hb dX1_startAt_7 rfl (lv_at hl 1 rfl) ?_
  refine get_ct_0 C hK X 0 rfl fl_X1_11 dX1_startAt_8 ?_
  refine lv_iload_n hx hb dX1_startAt_11 rfl (lv_at hl 0 rfl) ?_
  refine s_aald (t0 := 2) (b := a1) C hK X 1 rfl rfl (vp_in_nI (n := 1) (by decide) (by decide)) rfl dX1_startAt_12 ?_
  refine lv_iload_n hx hb dX1_startAt_13 rfl (lv_at hl 2 rfl) ?_
  refine s_cVv (ws' := [(h, ctE z aw al), (aw, waE ty a0 a1 a2 a3), (a0, whE (f_X5_startAt_h w0 V) m0), (a1, whE (f_X5_startAt_h w1 V) m1), (a2, whE w2 m2), (a3, whE w3 m3)]) C hK hA X (c_X5_startAt l D ty a1 m1 w1 V) [3] (pk_c rfl pk_n) rfl (pk_c rfl pk_n) (em_f (em_f (em_f (em_t (em_f (em_f em_n)))))) rfl ml_X5_startAt wm_X1_41 (q0 := 0) rfl rfl rfl ⟨Nat.le_of_ble_eq_true rfl, Nat.le_of_ble_eq_true rfl⟩ ⟨Nat.zero_le _, Nat.zero_le _⟩ hl.1 rfl (Nat.le_of_ble_eq_true rfl) dX1_startAt_14 (fun H locs X => ?_)
  refine lv_iinc (v := 2) (lv' := [(2, .int 2), (0, .ref h), (1, .int V)]) hx hb dX1_startAt_17 hl (k := 0) rfl (by decide) (by decide) rfl (fun ls hl => ?_)
  refine lv_goto (tgt := 2) hx hb dX1_startAt_20 (by decide) ?_
  refine lv_iload_n hx hb dX1_startAt_2 rfl (lv_at hl 0 rfl) ?_
  refine lv_iconst (v := 4) hx hb dX1_startAt_3 (by decide) ?_
  refine lv_icmp_ge (tgt := 23) hx hb dX1_startAt_4 (by decide) (fun c0 => absurd c0 (by decide)) (fun _ => ?_)
  refine lv_aload_n hx hb dX1_startAt_7 rfl (lv_at hl 1 rfl) ?_
  refine get_ct_0 C hK X 0 rfl fl_X1_11 dX1_startAt_8 ?_
  refine lv_iload_n hx hb dX1_startAt_11 rfl (lv_at hl 0 rfl) ?_
  refine s_aald (t0 := 2) (b := a2) C hK X 1 rfl rfl (vp_in_nI (n := 2) (by decide) (by decide)) rfl dX1_startAt_12 ?_
  refine lv_iload_n hx hb dX1_startAt_13 rfl (lv_at hl 2 rfl) ?_
  refine s_cVv (ws' := [(h, ctE z aw al), (aw, waE ty a0 a1 a2 a3), (a0, whE (f_X5_startAt_h w0 V) m0), (a1, whE (f_X5_startAt_h w1 V) m1), (a2, whE (f_X5_startAt_h w2 V) m2), (a3, whE w3 m3)]) C hK hA X (c_X5_startAt l D ty a2 m2 w2 V) [4] (pk_c rfl pk_n) rfl (pk_c rfl pk_n) (em_f (em_f (em_f (em_f (em_t (em_f em_n)))))) rfl ml_X5_startAt wm_X1_41 (q0 := 0) rfl rfl rfl ⟨Nat.le_of_ble_eq_true rfl, Nat.le_of_ble_eq_true rfl⟩ ⟨Nat.zero_le _, Nat.zero_le _⟩ hl.1 rfl (Nat.le_of_ble_eq_true rfl) dX1_startAt_14 (fun H locs X => ?_)
  refine lv_iinc (v := 3) (lv' := [(2, .int 3), (0, .ref h), (1, .int V)]) hx hb dX1_startAt_17 hl (k := 0) rfl (by decide) (by decide) rfl (fun ls hl => ?_)
  refine lv_goto (tgt := 2) hx hb dX1_startAt_20 (by decide) ?_
  refine lv_iload_n hx hb dX1_startAt_2 rfl (lv_at hl 0 rfl) ?_
  refine lv_iconst (v := 4) hx hb dX1_startAt_3 (by decide) ?_
  refine lv_icmp_ge (tgt := 23) hx hb dX1_startAt_4 (by decide) (fun c0 => absurd c0 (by decide)) (fun _ => ?_)
  refine lv_aload_n hx hb dX1_startAt_7 rfl (lv_at hl 1 rfl) ?_
  refine get_ct_0 C hK X 0 rfl fl_X1_11 dX1_startAt_8 ?_
  refine lv_iload_n hx hb dX1_startAt_11 rfl (lv_at hl 0 rfl) ?_
  refine s_aald (t0 := 2) (b := a3) C hK X 1 rfl rfl (vp_in_nI (n := 3) (by decide) (by decide)) rfl dX1_startAt_12 ?_
  refine lv_iload_n hx hb dX1_startAt_13 rfl (lv_at hl 2 rfl) ?_
  refine s_cVv (ws' := [(h, ctE z aw al), (aw, waE ty a0 a1 a2 a3), (a0, whE (f_X5_startAt_h w0 V) m0), (a1, whE (f_X5_startAt_h w1 V) m1), (a2, whE (f_X5_startAt_h w2 V) m2), (a3, whE (f_X5_startAt_h w3 V) m3)]) C hK hA X (c_X5_startAt l D ty a3 m3 w3 V) [5] (pk_c rfl pk_n) rfl (pk_c rfl pk_n) (em_f (em_f (em_f (em_f (em_f (em_t em_n)))))) rfl ml_X5_startAt wm_X1_41 (q0 := 0) rfl rfl rfl ⟨Nat.le_of_ble_eq_true rfl, Nat.le_of_ble_eq_true rfl⟩ ⟨Nat.zero_le _, Nat.zero_le _⟩ hl.1 rfl (Nat.le_of_ble_eq_true rfl) dX1_startAt_14 (fun H locs X => ?_)
  refine lv_iinc (v := 4) (lv' := [(2, .int 4), (0, .ref h), (1, .int V)]) hx hb dX1_startAt_17 hl (k := 0) rfl (by decide) (by decide) rfl (fun ls hl => ?_)
  refine lv_goto (tgt := 2) hx hb dX1_startAt_20 (by decide) ?_
  refine lv_iload_n hx hb dX1_startAt_2 rfl (lv_at hl 0 rfl) ?_
  refine lv_iconst (v := 4) hx hb dX1_startAt_3 (by decide) ?_
  refine lv_icmp_ge (tgt := 23) hx hb dX1_startAt_4 (by decide) (fun _ => ?_) (fun c0 => absurd (by decide) c0)
  refine lv_aload_n hx hb dX1_startAt_23 rfl (lv_at hl 1 rfl) ?_
  refine lv_iload_n hx hb dX1_startAt_24 rfl (lv_at hl 2 rfl) ?_
  refine put_ct_3 C hK X 0 rfl pl_X1_42 dX1_startAt_25 (fun H locs X => ?_)
  have X : Wd D A s.heap [(h, ctE (upd z 0 V) aw al), (aw, waE ty a0 a1 a2 a3), (a0, whE (f_X5_startAt_h w0 V) m0), (a1, whE (f_X5_startAt_h w1 V) m1), (a2, whE (f_X5_startAt_h w2 V) m2), (a3, whE (f_X5_startAt_h w3 V) m3)] H locs := X
  refine lv_aload_n hx hb dX1_startAt_28 rfl (lv_at hl 1 rfl) ?_
  refine lv_iconst (v := 0) hx hb dX1_startAt_29 (by decide) ?_
  refine put_ct_4 C hK X 0 rfl pl_X1_45 dX1_startAt_30 (fun H locs X => ?_)
  have X : Wd D A s.heap [(h, ctE (upd (upd z 0 V) 1 0) aw al), (aw, waE ty a0 a1 a2 a3), (a0, whE (f_X5_startAt_h w0 V) m0), (a1, whE (f_X5_startAt_h w1 V) m1), (a2, whE (f_X5_startAt_h w2 V) m2), (a3, whE (f_X5_startAt_h w3 V) m3)] H locs := X
  refine lv_aload_n hx hb dX1_startAt_33 rfl (lv_at hl 1 rfl) ?_
  refine lv_sipush (v := 150) hx hb dX1_startAt_34 (by decide) ?_
  refine put_ct_6 C hK X 0 rfl pl_X1_48 dX1_startAt_37 (fun H locs X => ?_)
  have X : Wd D A s.heap [(h, ctE (upd (upd (upd z 0 V) 1 0) 3 150) aw al), (aw, waE ty a0 a1 a2 a3), (a0, whE (f_X5_startAt_h w0 V) m0), (a1, whE (f_X5_startAt_h w1 V) m1), (a2, whE (f_X5_startAt_h w2 V) m2), (a3, whE (f_X5_startAt_h w3 V) m3)] H locs := X
  refine lv_aload_n hx hb dX1_startAt_40 rfl (lv_at hl 1 rfl) ?_
  refine lv_iconst (v := 0) hx hb dX1_startAt_41 (by decide) ?_
  refine put_ct_7 C hK X 0 rfl pl_X1_51 isB0 dX1_startAt_42 (fun H locs X => ?_)
  have X : Wd D A s.heap [(h, ctE (upd (upd (upd (upd z 0 V) 1 0) 3 150) 5 0) aw al), (aw, waE ty a0 a1 a2 a3), (a0, whE (f_X5_startAt_h w0 V) m0), (a1, whE (f_X5_startAt_h w1 V) m1), (a2, whE (f_X5_startAt_h w2 V) m2), (a3, whE (f_X5_startAt_h w3 V) m3)] H locs := X
  have e_0_0 : (f_X1_startAt_h z V) = (upd (upd (upd (upd z 0 V) 1 0) 3 150) 5 0) := by first | (rw [f_X1_startAt_h]; done) | (rw [f_X1_startAt_h]; rfl) | (simp only [f_X1_startAt_h]; done)
  have e_2_0 : (f_X1_startAt_a0 w0 V) = (f_X5_startAt_h w0 V) := by first | (rw [f_X1_startAt_a0]; done) | (rw [f_X1_startAt_a0]; rfl) | (simp only [f_X1_startAt_a0]; done)
  have e_3_0 : (f_X1_startAt_a1 w1 V) = (f_X5_startAt_h w1 V) := by first | (rw [f_X1_startAt_a1]; done) | (rw [f_X1_startAt_a1]; rfl) | (simp only [f_X1_startAt_a1]; done)
  have e_4_0 : (f_X1_startAt_a2 w2 V) = (f_X5_startAt_h w2 V) := by first | (rw [f_X1_startAt_a2]; done) | (rw [f_X1_startAt_a2]; rfl) | (simp only [f_X1_startAt_a2]; done)
  have e_5_0 : (f_X1_startAt_a3 w3 V) = (f_X5_startAt_h w3 V) := by first | (rw [f_X1_startAt_a3]; done) | (rw [f_X1_startAt_a3]; rfl) | (simp only [f_X1_startAt_a3]; done)
  exact hret _ _ _ _ _ dX1_startAt_45 X (by rw [e_0_0, e_2_0, e_3_0, e_4_0, e_5_0])
def f_X1_clear_h (z : F1) : F1 := (upd (upd (f_X1_startAt_h z 0) 4 1) 2 0)
def f_X1_clear_a0 (w0 : F1) : F1 := (f_X1_startAt_a0 (f_X5_clear_h w0) 0)
def f_X1_clear_a1 (w1 : F1) : F1 := (f_X1_startAt_a1 (f_X5_clear_h w1) 0)
def f_X1_clear_a2 (w2 : F1) : F1 := (f_X1_startAt_a2 (f_X5_clear_h w2) 0)
def f_X1_clear_a3 (w3 : F1) : F1 := (f_X1_startAt_a3 (f_X5_clear_h w3) 0)
theorem ok_X1_clear_a0 (w0 : F1) : kpOK (f_X1_clear_a0 w0) := by
  (try simp only [f_X1_clear_a0]); exact (ok_X1_startAt_a0 (f_X5_clear_h w0) 0)
theorem ok_X1_clear_a1 (w1 : F1) : kpOK (f_X1_clear_a1 w1) := by
  (try simp only [f_X1_clear_a1]); exact (ok_X1_startAt_a1 (f_X5_clear_h w1) 0)
theorem ok_X1_clear_a2 (w2 : F1) : kpOK (f_X1_clear_a2 w2) := by
  (try simp only [f_X1_clear_a2]); exact (ok_X1_startAt_a2 (f_X5_clear_h w2) 0)
theorem ok_X1_clear_a3 (w3 : F1) : kpOK (f_X1_clear_a3 w3) := by
  (try simp only [f_X1_clear_a3]); exact (ok_X1_startAt_a3 (f_X5_clear_h w3) 0)
theorem ok_X1_clear_al : lgOK 0 0 := by
  (try simp only []); exact (ok_X2_clear_h)
set_option maxHeartbeats 4000000 in
set_option maxRecDepth 100000 in
theorem c_X1_clear (l : Launch) (D : va_G) (ty : Nat → ClassId) (h : Nat) (aw : Nat) (al : Nat) (a0 : Nat) (a1 : Nat) (a2 : Nat) (a3 : Nat) (m0 : Nat) (m1 : Nat) (m2 : Nat) (m3 : Nat) (t : Nat) (k : Nat) (v : Nat) (fi : Nat) (lc : Nat) (z : F1) (w0 : F1) (w1 : F1) (w2 : F1) (w3 : F1) : MC l D ty yX1_clear cX1_clear 2 none 2 [.ref h] [(h, ctE z aw al), (aw, waE ty a0 a1 a2 a3), (a0, whE w0 m0), (a1, whE w1 m1), (a2, whE w2 m2), (a3, whE w3 m3), (al, loE fi lc t k v)] none [(h, ctE (f_X1_clear_h z) aw al), (aw, waE ty a0 a1 a2 a3), (a0, whE (f_X1_clear_a0 w0) m0), (a1, whE (f_X1_clear_a1 w1) m1), (a2, whE (f_X1_clear_a2 w2) m2), (a3, whE (f_X1_clear_a3 w3) m3), (al, loE 0 0 t k v)] := by
  refine mc_v (by decide +kernel) (Nat.le_of_ble_eq_true rfl) ?_
  intro p e s m args below meth c A Q ls C hK hA X hret hl
  have hx := C.1
  have hb := C.2.1
  have hl : lv_has ls 2 [(0, .ref h)] := hl
  have X : Wd D A s.heap [(h, ctE z aw al), (aw, waE ty a0 a1 a2 a3), (a0, whE w0 m0), (a1, whE w1 m1), (a2, whE w2 m2), (a3, whE w3 m3), (al, loE fi lc t k v)] s.heap [] := X
  refine lv_iconst (v := 0) hx hb dX1_clear_0 (by decide) ?_
  refine lv_istore_n (lv' := [(1, .int 0), (0, .ref h)]) hx hb dX1_clear_1 rfl hl (by decide) rfl (fun ls hl => ?_)
  refine lv_iload_n hx hb dX1_clear_2 rfl (lv_at hl 0 rfl) ?_
  refine lv_iconst (v := 4) hx hb dX1_clear_3 (by decide) ?_
  refine lv_icmp_ge (tgt := 22) hx hb dX1_clear_4 (by decide) (fun c0 => absurd c0 (by decide)) (fun _ => ?_)
  refine lv_aload_n hx hb dX1_clear_7 rfl (lv_at hl 1 rfl) ?_
  refine get_ct_0 C hK X 0 rfl fl_X1_11 dX1_clear_8 ?_
  refine lv_iload_n hx hb dX1_clear_11 rfl (lv_at hl 0 rfl) ?_
  refine s_aald (t0 := 2) (b := a0) C hK X 1 rfl rfl (vp_in_nI (n := 0) (by decide) (by decide)) rfl dX1_clear_12 ?_
  refine s_cVv (ws' := [(h, ctE z aw al), (aw, waE ty a0 a1 a2 a3), (a0, whE (f_X5_clear_h w0) m0), (a1, whE w1 m1), (a2, whE w2 m2), (a3, whE w3 m3), (al, loE fi lc t k v)]) C hK hA X (c_X5_clear l D ty a0 m0 w0) [2] (pk_c rfl pk_n) rfl (pk_c rfl pk_n) (em_f (em_f (em_t (em_f (em_f (em_f (em_f em_n))))))) rfl ml_X5_clear wm_X1_25 (q0 := 0) rfl rfl rfl ⟨Nat.le_of_ble_eq_true rfl, Nat.le_of_ble_eq_true rfl⟩ ⟨Nat.zero_le _, Nat.zero_le _⟩ hl.1 rfl (Nat.le_of_ble_eq_true rfl) dX1_clear_13 (fun H locs X => ?_)
  refine lv_iinc (v := 1) (lv' := [(1, .int 1), (0, .ref h)]) hx hb dX1_clear_16 hl (k := 0) rfl (by decide) (by decide) rfl (fun ls hl => ?_)
  refine lv_goto (tgt := 2) hx hb dX1_clear_19 (by decide) ?_
  refine lv_iload_n hx hb dX1_clear_2 rfl (lv_at hl 0 rfl) ?_
  refine lv_iconst (v := 4) hx hb dX1_clear_3 (by decide) ?_
  refine lv_icmp_ge (tgt := 22) hx hb dX1_clear_4 (by decide) (fun c0 => absurd c0 (by decide)) (fun _ => ?_)
  refine lv_aload_n hx hb dX1_clear_7 rfl (lv_at hl 1 rfl) ?_
  refine get_ct_0 C hK X 0 rfl fl_X1_11 dX1_clear_8 ?_
  refine lv_iload_n hx hb dX1_clear_11 rfl (lv_at hl 0 rfl) ?_
  refine s_aald (t0 := 2) (b := a1) C hK X 1 rfl rfl (vp_in_nI (n := 1) (by decide) (by decide)) rfl dX1_clear_12 ?_
  refine s_cVv (ws' := [(h, ctE z aw al), (aw, waE ty a0 a1 a2 a3), (a0, whE (f_X5_clear_h w0) m0), (a1, whE (f_X5_clear_h w1) m1), (a2, whE w2 m2), (a3, whE w3 m3), (al, loE fi lc t k v)]) C hK hA X (c_X5_clear l D ty a1 m1 w1) [3] (pk_c rfl pk_n) rfl (pk_c rfl pk_n) (em_f (em_f (em_f (em_t (em_f (em_f (em_f em_n))))))) rfl ml_X5_clear wm_X1_25 (q0 := 0) rfl rfl rfl ⟨Nat.le_of_ble_eq_true rfl, Nat.le_of_ble_eq_true rfl⟩ ⟨Nat.zero_le _, Nat.zero_le _⟩ hl.1 rfl (Nat.le_of_ble_eq_true rfl) dX1_clear_13 (fun H locs X => ?_)
  refine lv_iinc (v := 2) (lv' := [(1, .int 2), (0, .ref h)]) hx hb dX1_clear_16 hl (k := 0) rfl (by decide) (by decide) rfl (fun ls hl => ?_)
  refine lv_goto (tgt := 2) hx hb dX1_clear_19 (by decide) ?_
  refine lv_iload_n hx hb dX1_clear_2 rfl (lv_at hl 0 rfl) ?_
  refine lv_iconst (v := 4) hx hb dX1_clear_3 (by decide) ?_
  refine lv_icmp_ge (tgt := 22) hx hb dX1_clear_4 (by decide) (fun c0 => absurd c0 (by decide)) (fun _ => ?_)
  refine lv_aload_n hx hb dX1_clear_7 rfl (lv_at hl 1 rfl) ?_
  refine get_ct_0 C hK X 0 rfl fl_X1_11 dX1_clear_8 ?_
  refine lv_iload_n hx hb dX1_clear_11 rfl (lv_at hl 0 rfl) ?_
  refine s_aald (t0 := 2) (b := a2) C hK X 1 rfl rfl (vp_in_nI (n := 2) (by decide) (by decide)) rfl dX1_clear_12 ?_
  refine s_cVv (ws' := [(h, ctE z aw al), (aw, waE ty a0 a1 a2 a3), (a0, whE (f_X5_clear_h w0) m0), (a1, whE (f_X5_clear_h w1) m1), (a2, whE (f_X5_clear_h w2) m2), (a3, whE w3 m3), (al, loE fi lc t k v)]) C hK hA X (c_X5_clear l D ty a2 m2 w2) [4] (pk_c rfl pk_n) rfl (pk_c rfl pk_n) (em_f (em_f (em_f (em_f (em_t (em_f (em_f em_n))))))) rfl ml_X5_clear wm_X1_25 (q0 := 0) rfl rfl rfl ⟨Nat.le_of_ble_eq_true rfl, Nat.le_of_ble_eq_true rfl⟩ ⟨Nat.zero_le _, Nat.zero_le _⟩ hl.1 rfl (Nat.le_of_ble_eq_true rfl) dX1_clear_13 (fun H locs X => ?_)
  refine lv_iinc (v := 3) (lv' := [(1, .int 3), (0, .ref h)]) hx hb dX1_clear_16 hl (k := 0) rfl (by decide) (by decide) rfl (fun ls hl => ?_)
  refine lv_goto (tgt := 2) hx hb dX1_clear_19 (by decide) ?_
  refine lv_iload_n hx hb dX1_clear_2 rfl (lv_at hl 0 rfl) ?_
  refine lv_iconst (v := 4) hx hb dX1_clear_3 (by decide) ?_
  refine lv_icmp_ge (tgt := 22) hx hb dX1_clear_4 (by decide) (fun c0 => absurd c0 (by decide)) (fun _ => ?_)
  refine lv_aload_n hx hb dX1_clear_7 rfl (lv_at hl 1 rfl) ?_
  refine get_ct_0 C hK X 0 rfl fl_X1_11 dX1_clear_8 ?_
  refine lv_iload_n hx hb dX1_clear_11 rfl (lv_at hl 0 rfl) ?_
  refine s_aald (t0 := 2) (b := a3) C hK X 1 rfl rfl (vp_in_nI (n := 3) (by decide) (by decide)) rfl dX1_clear_12 ?_
  refine s_cVv (ws' := [(h, ctE z aw al), (aw, waE ty a0 a1 a2 a3), (a0, whE (f_X5_clear_h w0) m0), (a1, whE (f_X5_clear_h w1) m1), (a2, whE (f_X5_clear_h w2) m2), (a3, whE (f_X5_clear_h w3) m3), (al, loE fi lc t k v)]) C hK hA X (c_X5_clear l D ty a3 m3 w3) [5] (pk_c rfl pk_n) rfl (pk_c rfl pk_n) (em_f (em_f (em_f (em_f (em_f (em_t (em_f em_n))))))) rfl ml_X5_clear wm_X1_25 (q0 := 0) rfl rfl rfl ⟨Nat.le_of_ble_eq_true rfl, Nat.le_of_ble_eq_true rfl⟩ ⟨Nat.zero_le _, Nat.zero_le _⟩ hl.1 rfl (Nat.le_of_ble_eq_true rfl) dX1_clear_13 (fun H locs X => ?_)
  refine lv_iinc (v := 4) (lv' := [(1, .int 4), (0, .ref h)]) hx hb dX1_clear_16 hl (k := 0) rfl (by decide) (by decide) rfl (fun ls hl => ?_)
  refine lv_goto (tgt := 2) hx hb dX1_clear_19 (by decide) ?_
  refine lv_iload_n hx hb dX1_clear_2 rfl (lv_at hl 0 rfl) ?_
  refine lv_iconst (v := 4) hx hb dX1_clear_3 (by decide) ?_
  refine lv_icmp_ge (tgt := 22) hx hb dX1_clear_4 (by decide) (fun _ => ?_) (fun c0 => absurd (by decide) c0)
  refine lv_aload_n hx hb dX1_clear_22 rfl (lv_at hl 1 rfl) ?_
  refine get_ct_1 C hK X 0 rfl fl_X1_21 dX1_clear_23 ?_
  refine s_cVv (ws' := [(h, ctE z aw al), (aw, waE ty a0 a1 a2 a3), (a0, whE (f_X5_clear_h w0) m0), (a1, whE (f_X5_clear_h w1) m1), (a2, whE (f_X5_clear_h w2) m2), (a3, whE (f_X5_clear_h w3) m3), (al, loE 0 0 t k v)]) C hK hA X (c_X2_clear l D ty al t k v fi lc) [6] (pk_c rfl pk_n) rfl (pk_c rfl pk_n) (em_f (em_f (em_f (em_f (em_f (em_f (em_t em_n))))))) rfl ml_X2_clear wm_X1_28 (q0 := 0) rfl rfl rfl ⟨Nat.le_of_ble_eq_true rfl, Nat.le_of_ble_eq_true rfl⟩ ⟨Nat.zero_le _, Nat.zero_le _⟩ hl.1 rfl (Nat.le_of_ble_eq_true rfl) dX1_clear_26 (fun H locs X => ?_)
  refine lv_aload_n hx hb dX1_clear_29 rfl (lv_at hl 1 rfl) ?_
  refine lv_iconst (v := 0) hx hb dX1_clear_30 (by decide) ?_
  refine s_cVv (ws' := [(h, ctE (f_X1_startAt_h z 0) aw al), (aw, waE ty a0 a1 a2 a3), (a0, whE (f_X1_startAt_a0 (f_X5_clear_h w0) 0) m0), (a1, whE (f_X1_startAt_a1 (f_X5_clear_h w1) 0) m1), (a2, whE (f_X1_startAt_a2 (f_X5_clear_h w2) 0) m2), (a3, whE (f_X1_startAt_a3 (f_X5_clear_h w3) 0) m3), (al, loE 0 0 t k v)]) C hK hA X (c_X1_startAt l D ty h aw al a0 a1 a2 a3 m0 m1 m2 m3 z (f_X5_clear_h w0) (f_X5_clear_h w1) (f_X5_clear_h w2) (f_X5_clear_h w3) 0) [0, 1, 2, 3, 4, 5] (pk_c rfl (pk_c rfl (pk_c rfl (pk_c rfl (pk_c rfl (pk_c rfl pk_n)))))) rfl (pk_c rfl (pk_c rfl (pk_c rfl (pk_c rfl (pk_c rfl (pk_c rfl pk_n)))))) (em_t (em_t (em_t (em_t (em_t (em_t (em_f em_n))))))) rfl ml_X1_startAt wm_X1_29 (q0 := 0) rfl rfl rfl ⟨Nat.le_of_ble_eq_true rfl, Nat.le_of_ble_eq_true rfl⟩ ⟨Nat.zero_le _, Nat.zero_le _⟩ hl.1 rfl (Nat.le_of_ble_eq_true rfl) dX1_clear_31 (fun H locs X => ?_)
  refine lv_aload_n hx hb dX1_clear_34 rfl (lv_at hl 1 rfl) ?_
  refine lv_iconst (v := 1) hx hb dX1_clear_35 (by decide) ?_
  refine put_ct_2 C hK X 0 rfl pl_X1_33 isB1 dX1_clear_36 (fun H locs X => ?_)
  have X : Wd D A s.heap [(h, ctE (upd (f_X1_startAt_h z 0) 4 1) aw al), (aw, waE ty a0 a1 a2 a3), (a0, whE (f_X1_startAt_a0 (f_X5_clear_h w0) 0) m0), (a1, whE (f_X1_startAt_a1 (f_X5_clear_h w1) 0) m1), (a2, whE (f_X1_startAt_a2 (f_X5_clear_h w2) 0) m2), (a3, whE (f_X1_startAt_a3 (f_X5_clear_h w3) 0) m3), (al, loE 0 0 t k v)] H locs := X
  refine lv_aload_n hx hb dX1_clear_39 rfl (lv_at hl 1 rfl) ?_
  refine lv_iconst (v := 0) hx hb dX1_clear_40 (by decide) ?_
  refine put_ct_5 C hK X 0 rfl pl_X1_37 dX1_clear_41 (fun H locs X => ?_)
  have X : Wd D A s.heap [(h, ctE (upd (upd (f_X1_startAt_h z 0) 4 1) 2 0) aw al), (aw, waE ty a0 a1 a2 a3), (a0, whE (f_X1_startAt_a0 (f_X5_clear_h w0) 0) m0), (a1, whE (f_X1_startAt_a1 (f_X5_clear_h w1) 0) m1), (a2, whE (f_X1_startAt_a2 (f_X5_clear_h w2) 0) m2), (a3, whE (f_X1_startAt_a3 (f_X5_clear_h w3) 0) m3), (al, loE 0 0 t k v)] H locs := X
  have e_0_0 : (f_X1_clear_h z) = (upd (upd (f_X1_startAt_h z 0) 4 1) 2 0) := by first | (rw [f_X1_clear_h]; done) | (rw [f_X1_clear_h]; rfl) | (simp only [f_X1_clear_h]; done)
  have e_2_0 : (f_X1_clear_a0 w0) = (f_X1_startAt_a0 (f_X5_clear_h w0) 0) := by first | (rw [f_X1_clear_a0]; done) | (rw [f_X1_clear_a0]; rfl) | (simp only [f_X1_clear_a0]; done)
  have e_3_0 : (f_X1_clear_a1 w1) = (f_X1_startAt_a1 (f_X5_clear_h w1) 0) := by first | (rw [f_X1_clear_a1]; done) | (rw [f_X1_clear_a1]; rfl) | (simp only [f_X1_clear_a1]; done)
  have e_4_0 : (f_X1_clear_a2 w2) = (f_X1_startAt_a2 (f_X5_clear_h w2) 0) := by first | (rw [f_X1_clear_a2]; done) | (rw [f_X1_clear_a2]; rfl) | (simp only [f_X1_clear_a2]; done)
  have e_5_0 : (f_X1_clear_a3 w3) = (f_X1_startAt_a3 (f_X5_clear_h w3) 0) := by first | (rw [f_X1_clear_a3]; done) | (rw [f_X1_clear_a3]; rfl) | (simp only [f_X1_clear_a3]; done)
  exact hret _ _ _ _ _ dX1_clear_44 X (by rw [e_0_0, e_2_0, e_3_0, e_4_0, e_5_0])
def f_X1_copyFrom_h (z : F1) (zq : F1) : F1 := (upd (upd (upd (upd (upd (upd z 4 (zq 4)) 0 (zq 0)) 1 (zq 1)) 2 (zq 2)) 3 (zq 3)) 5 (zq 5))
def f_X1_copyFrom_a0 (w0 : F1) (w0q : F1) : F1 := (f_X5_copyFrom_h w0 w0q)
def f_X1_copyFrom_a1 (w1 : F1) (w1q : F1) : F1 := (f_X5_copyFrom_h w1 w1q)
def f_X1_copyFrom_a2 (w2 : F1) (w2q : F1) : F1 := (f_X5_copyFrom_h w2 w2q)
def f_X1_copyFrom_a3 (w3 : F1) (w3q : F1) : F1 := (f_X5_copyFrom_h w3 w3q)
def f_X1_copyFrom_m0 (f0 : F1) (f0q : F1) : F1 := (f_X5_copyFrom_am f0 f0q)
def f_X1_copyFrom_m1 (f1 : F1) (f1q : F1) : F1 := (f_X5_copyFrom_am f1 f1q)
def f_X1_copyFrom_m2 (f2 : F1) (f2q : F1) : F1 := (f_X5_copyFrom_am f2 f2q)
def f_X1_copyFrom_m3 (f3 : F1) (f3q : F1) : F1 := (f_X5_copyFrom_am f3 f3q)
def f_X1_copyFrom_t (lt : F1) (ltq : F1) : F1 := (f_X2_copyFrom_t lt ltq)
def f_X1_copyFrom_k (lk : F1) (lkq : F1) : F1 := (f_X2_copyFrom_k lk lkq)
def f_X1_copyFrom_v (lv : F1) (lvq : F1) : F1 := (f_X2_copyFrom_v lv lvq)
theorem ok_X1_copyFrom_a0 (w0 : F1) (w0q : F1) (tk_a0q : kpOK w0q) : kpOK (f_X1_copyFrom_a0 w0 w0q) := by
  (try simp only [f_X1_copyFrom_a0]); exact (ok_X5_copyFrom_h w0 w0q tk_a0q)
theorem ok_X1_copyFrom_a1 (w1 : F1) (w1q : F1) (tk_a1q : kpOK w1q) : kpOK (f_X1_copyFrom_a1 w1 w1q) := by
  (try simp only [f_X1_copyFrom_a1]); exact (ok_X5_copyFrom_h w1 w1q tk_a1q)
theorem ok_X1_copyFrom_a2 (w2 : F1) (w2q : F1) (tk_a2q : kpOK w2q) : kpOK (f_X1_copyFrom_a2 w2 w2q) := by
  (try simp only [f_X1_copyFrom_a2]); exact (ok_X5_copyFrom_h w2 w2q tk_a2q)
theorem ok_X1_copyFrom_a3 (w3 : F1) (w3q : F1) (tk_a3q : kpOK w3q) : kpOK (f_X1_copyFrom_a3 w3 w3q) := by
  (try simp only [f_X1_copyFrom_a3]); exact (ok_X5_copyFrom_h w3 w3q tk_a3q)
theorem ok_X1_copyFrom_al (fiq : Nat) (lcq : Nat) (tk_alq : lgOK fiq lcq) : lgOK fiq lcq := by
  (try simp only []); exact (ok_X2_copyFrom_h fiq lcq tk_alq)
set_option maxHeartbeats 4000000 in
set_option maxRecDepth 100000 in
theorem c_X1_copyFrom (l : Launch) (D : va_G) (ty : Nat → ClassId) (h : Nat) (aw : Nat) (al : Nat) (a0 : Nat) (a1 : Nat) (a2 : Nat) (a3 : Nat) (m0 : Nat) (m1 : Nat) (m2 : Nat) (m3 : Nat) (t : Nat) (k : Nat) (v : Nat) (fi : Nat) (lc : Nat) (z : F1) (w0 : F1) (w1 : F1) (w2 : F1) (w3 : F1) (f0 : F1) (f1 : F1) (f2 : F1) (f3 : F1) (lt : F1) (lk : F1) (lv : F1) (hq : Nat) (awq : Nat) (alq : Nat) (a0q : Nat) (a1q : Nat) (a2q : Nat) (a3q : Nat) (m0q : Nat) (m1q : Nat) (m2q : Nat) (m3q : Nat) (tq : Nat) (kq : Nat) (vq : Nat) (fiq : Nat) (lcq : Nat) (zq : F1) (w0q : F1) (w1q : F1) (w2q : F1) (w3q : F1) (f0q : F1) (f1q : F1) (f2q : F1) (f3q : F1) (ltq : F1) (lkq : F1) (lvq : F1) (hb4 : isB (zq 4)) (hb5 : isB (zq 5)) (he0 : isB (w0q 7)) (he1 : isB (w1q 7)) (he2 : isB (w2q 7)) (he3 : isB (w3q 7)) (hf0 : isB (w0q 9)) (hf1 : isB (w1q 9)) (hf2 : isB (w2q 9)) (hf3 : isB (w3q 9)) : MC l D ty yX1_copyFrom cX1_copyFrom 3 none 2 [.ref h, .ref hq] [(h, ctE z aw al), (aw, waE ty a0 a1 a2 a3), (a0, whE w0 m0), (a1, whE w1 m1), (a2, whE w2 m2), (a3, whE w3 m3), (m0, arE ty 5 f0), (m1, arE ty 5 f1), (m2, arE ty 5 f2), (m3, arE ty 5 f3), (al, loE fi lc t k v), (t, arE ty 40 lt), (k, arE ty 40 lk), (v, arE ty 40 lv), (hq, ctE zq awq alq), (awq, waE ty a0q a1q a2q a3q), (a0q, whE w0q m0q), (a1q, whE w1q m1q), (a2q, whE w2q m2q), (a3q, whE w3q m3q), (m0q, arE ty 5 f0q), (m1q, arE ty 5 f1q), (m2q, arE ty 5 f2q), (m3q, arE ty 5 f3q), (alq, loE fiq lcq tq kq vq), (tq, arE ty 40 ltq), (kq, arE ty 40 lkq), (vq, arE ty 40 lvq)] none [(h, ctE (f_X1_copyFrom_h z zq) aw al), (aw, waE ty a0 a1 a2 a3), (a0, whE (f_X1_copyFrom_a0 w0 w0q) m0), (a1, whE (f_X1_copyFrom_a1 w1 w1q) m1), (a2, whE (f_X1_copyFrom_a2 w2 w2q) m2), (a3, whE (f_X1_copyFrom_a3 w3 w3q) m3), (m0, arE ty 5 (f_X1_copyFrom_m0 f0 f0q)), (m1, arE ty 5 (f_X1_copyFrom_m1 f1 f1q)), (m2, arE ty 5 (f_X1_copyFrom_m2 f2 f2q)), (m3, arE ty 5 (f_X1_copyFrom_m3 f3 f3q)), (al, loE fiq lcq t k v), (t, arE ty 40 (f_X1_copyFrom_t lt ltq)), (k, arE ty 40 (f_X1_copyFrom_k lk lkq)), (v, arE ty 40 (f_X1_copyFrom_v lv lvq)), (hq, ctE zq awq alq), (awq, waE ty a0q a1q a2q a3q), (a0q, whE w0q m0q), (a1q, whE w1q m1q), (a2q, whE w2q m2q), (a3q, whE w3q m3q), (m0q, arE ty 5 f0q), (m1q, arE ty 5 f1q), (m2q, arE ty 5 f2q), (m3q, arE ty 5 f3q), (alq, loE fiq lcq tq kq vq), (tq, arE ty 40 ltq), (kq, arE ty 40 lkq), (vq, arE ty 40 lvq)] := by
  refine mc_v (by decide +kernel) (Nat.le_of_ble_eq_true rfl) ?_
  intro p e s m args below meth c A Q ls C hK hA X hret hl
  have hx := C.1
  have hb := C.2.1
  have hl : lv_has ls 3 [(0, .ref h), (1, .ref hq)] := hl
  have X : Wd D A s.heap [(h, ctE z aw al), (aw, waE ty a0 a1 a2 a3), (a0, whE w0 m0), (a1, whE w1 m1), (a2, whE w2 m2), (a3, whE w3 m3), (m0, arE ty 5 f0), (m1, arE ty 5 f1), (m2, arE ty 5 f2), (m3, arE ty 5 f3), (al, loE fi lc t k v), (t, arE ty 40 lt), (k, arE ty 40 lk), (v, arE ty 40 lv), (hq, ctE zq awq alq), (awq, waE ty a0q a1q a2q a3q), (a0q, whE w0q m0q), (a1q, whE w1q m1q), (a2q, whE w2q m2q), (a3q, whE w3q m3q), (m0q, arE ty 5 f0q), (m1q, arE ty 5 f1q), (m2q, arE ty 5 f2q), (m3q, arE ty 5 f3q), (alq, loE fiq lcq tq kq vq), (tq, arE ty 40 ltq), (kq, arE ty 40 lkq), (vq, arE ty 40 lvq)] s.heap [] := X
  refine lv_iconst (v := 0) hx hb dX1_copyFrom_0 (by decide) ?_
  refine lv_istore_n (lv' := [(2, .int 0), (0, .ref h), (1, .ref hq)]) hx hb dX1_copyFrom_1 rfl hl (by decide) rfl (fun ls hl => ?_)
  refine lv_iload_n hx hb dX1_copyFrom_2 rfl (lv_at hl 0 rfl) ?_
  refine lv_iconst (v := 4) hx hb dX1_copyFrom_3 (by decide) ?_
  refine lv_icmp_ge (tgt := 28) hx hb dX1_copyFrom_4 (by decide) (fun c0 => absurd c0 (by decide)) (fun _ => ?_)
  refine lv_aload_n hx hb dX1_copyFrom_7 rfl (lv_at hl 1 rfl) ?_
  refine get_ct_0 C hK X 0 rfl fl_X1_11 dX1_copyFrom_8 ?_
  refine lv_iload_n hx hb dX1_copyFrom_11 rfl (lv_at hl 0 rfl) ?_
  refine s_aald (t0 := 2) (b := a0) C hK X 1 rfl rfl (vp_in_nI (n := 0) (by decide) (by decide)) rfl dX1_copyFrom_12 ?_
  refine lv_aload_n hx hb dX1_copyFrom_13 rfl (lv_at hl 2 rfl) ?_
  refine get_ct_0 C hK X 14 rfl fl_X1_11 dX1_copyFrom_14 ?_
  refine lv_iload_n hx hb dX1_copyFrom_17 rfl (lv_at hl 0 rfl) ?_
  refine s_aald (t0 := 2) (b := a0q) C hK X 15 rfl rfl (vp_in_nI (n := 0) (by decide) (by decide)) rfl dX1_copyFrom_18 ?_
  refine s_cVv (ws' := [(h, ctE z aw al), (aw, waE ty a0 a1 a2 a3), (a0, whE (f_X5_copyFrom_h w0 w0q) m0), (a1, whE w1 m1), (a2, whE w2 m2), (a3, whE w3 m3), (m0, arE ty 5 (f_X5_copyFrom_am f0 f0q)), (m1, arE ty 5 f1), (m2, arE ty 5 f2), (m3, arE ty 5 f3), (al, loE fi lc t k v), (t, arE ty 40 lt), (k, arE ty 40 lk), (v, arE ty 40 lv), (hq, ctE zq awq alq), (awq, waE ty a0q a1q a2q a3q), (a0q, whE w0q m0q), (a1q, whE w1q m1q), (a2q, whE w2q m2q), (a3q, whE w3q m3q), (m0q, arE ty 5 f0q), (m1q, arE ty 5 f1q), (m2q, arE ty 5 f2q), (m3q, arE ty 5 f3q), (alq, loE fiq lcq tq kq vq), (tq, arE ty 40 ltq), (kq, arE ty 40 lkq), (vq, arE ty 40 lvq)]) C hK hA X (c_X5_copyFrom l D ty a0 m0 w0 f0 a0q m0q w0q f0q he0 hf0) [2, 6, 16, 20] (pk_c rfl (pk_c rfl (pk_c rfl (pk_c rfl pk_n)))) rfl (pk_c rfl (pk_c rfl (pk_c rfl (pk_c rfl pk_n)))) (em_f (em_f (em_t (em_f (em_f (em_f (em_t (em_f (em_f (em_f (em_f (em_f (em_f (em_f (em_f (em_f (em_t (em_f (em_f (em_f (em_t (em_f (em_f (em_f (em_f (em_f (em_f (em_f em_n)))))))))))))))))))))))))))) rfl ml_X5_copyFrom wm_X1_54 (q0 := 0) rfl rfl rfl ⟨Nat.le_of_ble_eq_true rfl, Nat.le_of_ble_eq_true rfl⟩ ⟨Nat.zero_le _, Nat.zero_le _⟩ hl.1 rfl (Nat.le_of_ble_eq_true rfl) dX1_copyFrom_19 (fun H locs X => ?_)
  refine lv_iinc (v := 1) (lv' := [(2, .int 1), (0, .ref h), (1, .ref hq)]) hx hb dX1_copyFrom_22 hl (k := 0) rfl (by decide) (by decide) rfl (fun ls hl => ?_)
  refine lv_goto (tgt := 2) hx hb dX1_copyFrom_25 (by decide) ?_
  refine lv_iload_n hx hb dX1_copyFrom_2 rfl (lv_at hl 0 rfl) ?_
  refine lv_iconst (v := 4) hx hb dX1_copyFrom_3 (by decide) ?_
  refine lv_icmp_ge (tgt := 28) hx hb dX1_copyFrom_4 (by decide) (fun c0 => absurd c0 (by decide)) (fun _ => ?_)
  refine lv_aload_n hx hb dX1_copyFrom_7 rfl (lv_at hl 1 rfl) ?_
  refine get_ct_0 C hK X 0 rfl fl_X1_11 dX1_copyFrom_8 ?_
  refine lv_iload_n hx hb dX1_copyFrom_11 rfl (lv_at hl 0 rfl) ?_
  refine s_aald (t0 := 2) (b := a1) C hK X 1 rfl rfl (vp_in_nI (n := 1) (by decide) (by decide)) rfl dX1_copyFrom_12 ?_
  refine lv_aload_n hx hb dX1_copyFrom_13 rfl (lv_at hl 2 rfl) ?_
  refine get_ct_0 C hK X 14 rfl fl_X1_11 dX1_copyFrom_14 ?_
  refine lv_iload_n hx hb dX1_copyFrom_17 rfl (lv_at hl 0 rfl) ?_
  refine s_aald (t0 := 2) (b := a1q) C hK X 15 rfl rfl (vp_in_nI (n := 1) (by decide) (by decide)) rfl dX1_copyFrom_18 ?_
  refine s_cVv (ws' := [(h, ctE z aw al), (aw, waE ty a0 a1 a2 a3), (a0, whE (f_X5_copyFrom_h w0 w0q) m0), (a1, whE (f_X5_copyFrom_h w1 w1q) m1), (a2, whE w2 m2), (a3, whE w3 m3), (m0, arE ty 5 (f_X5_copyFrom_am f0 f0q)), (m1, arE ty 5 (f_X5_copyFrom_am f1 f1q)), (m2, arE ty 5 f2), (m3, arE ty 5 f3), (al, loE fi lc t k v), (t, arE ty 40 lt), (k, arE ty 40 lk), (v, arE ty 40 lv), (hq, ctE zq awq alq), (awq, waE ty a0q a1q a2q a3q), (a0q, whE w0q m0q), (a1q, whE w1q m1q), (a2q, whE w2q m2q), (a3q, whE w3q m3q), (m0q, arE ty 5 f0q), (m1q, arE ty 5 f1q), (m2q, arE ty 5 f2q), (m3q, arE ty 5 f3q), (alq, loE fiq lcq tq kq vq), (tq, arE ty 40 ltq), (kq, arE ty 40 lkq), (vq, arE ty 40 lvq)]) C hK hA X (c_X5_copyFrom l D ty a1 m1 w1 f1 a1q m1q w1q f1q he1 hf1) [3, 7, 17, 21] (pk_c rfl (pk_c rfl (pk_c rfl (pk_c rfl pk_n)))) rfl (pk_c rfl (pk_c rfl (pk_c rfl (pk_c rfl pk_n)))) (em_f (em_f (em_f (em_t (em_f (em_f (em_f (em_t (em_f (em_f (em_f (em_f (em_f (em_f (em_f (em_f (em_f (em_t (em_f (em_f (em_f (em_t (em_f (em_f (em_f (em_f (em_f (em_f em_n)))))))))))))))))))))))))))) rfl ml_X5_copyFrom wm_X1_54 (q0 := 0) rfl rfl rfl ⟨Nat.le_of_ble_eq_true rfl, Nat.le_of_ble_eq_true rfl⟩ ⟨Nat.zero_le _, Nat.zero_le _⟩ hl.1 rfl (Nat.le_of_ble_eq_true rfl) dX1_copyFrom_19 (fun H locs X => ?_)
  refine lv_iinc (v := 2) (lv' := [(2, .int 2), (0, .ref h), (1, .ref hq)]) hx hb dX1_copyFrom_22 hl (k := 0) rfl (by decide) (by decide) rfl (fun ls hl => ?_)
  refine lv_goto (tgt := 2) hx hb dX1_copyFrom_25 (by decide) ?_
  refine lv_iload_n hx hb dX1_copyFrom_2 rfl (lv_at hl 0 rfl) ?_
  refine lv_iconst (v := 4) hx hb dX1_copyFrom_3 (by decide) ?_
  refine lv_icmp_ge (tgt := 28) hx hb dX1_copyFrom_4 (by decide) (fun c0 => absurd c0 (by decide)) (fun _ => ?_)
  refine lv_aload_n hx hb dX1_copyFrom_7 rfl (lv_at hl 1 rfl) ?_
  refine get_ct_0 C hK X 0 rfl fl_X1_11 dX1_copyFrom_8 ?_
  refine lv_iload_n hx hb dX1_copyFrom_11 rfl (lv_at hl 0 rfl) ?_
  refine s_aald (t0 := 2) (b := a2) C hK X 1 rfl rfl (vp_in_nI (n := 2) (by decide) (by decide)) rfl dX1_copyFrom_12 ?_
  refine lv_aload_n hx hb dX1_copyFrom_13 rfl (lv_at hl 2 rfl) ?_
  refine get_ct_0 C hK X 14 rfl fl_X1_11 dX1_copyFrom_14 ?_
  refine lv_iload_n hx hb dX1_copyFrom_17 rfl (lv_at hl 0 rfl) ?_
  refine s_aald (t0 := 2) (b := a2q) C hK X 15 rfl rfl (vp_in_nI (n := 2) (by decide) (by decide)) rfl dX1_copyFrom_18 ?_
  refine s_cVv (ws' := [(h, ctE z aw al), (aw, waE ty a0 a1 a2 a3), (a0, whE (f_X5_copyFrom_h w0 w0q) m0), (a1, whE (f_X5_copyFrom_h w1 w1q) m1), (a2, whE (f_X5_copyFrom_h w2 w2q) m2), (a3, whE w3 m3), (m0, arE ty 5 (f_X5_copyFrom_am f0 f0q)), (m1, arE ty 5 (f_X5_copyFrom_am f1 f1q)), (m2, arE ty 5 (f_X5_copyFrom_am f2 f2q)), (m3, arE ty 5 f3), (al, loE fi lc t k v), (t, arE ty 40 lt), (k, arE ty 40 lk), (v, arE ty 40 lv), (hq, ctE zq awq alq), (awq, waE ty a0q a1q a2q a3q), (a0q, whE w0q m0q), (a1q, whE w1q m1q), (a2q, whE w2q m2q), (a3q, whE w3q m3q), (m0q, arE ty 5 f0q), (m1q, arE ty 5 f1q), (m2q, arE ty 5 f2q), (m3q, arE ty 5 f3q), (alq, loE fiq lcq tq kq vq), (tq, arE ty 40 ltq), (kq, arE ty 40 lkq), (vq, arE ty 40 lvq)]) C hK hA X (c_X5_copyFrom l D ty a2 m2 w2 f2 a2q m2q w2q f2q he2 hf2) [4, 8, 18, 22] (pk_c rfl (pk_c rfl (pk_c rfl (pk_c rfl pk_n)))) rfl (pk_c rfl (pk_c rfl (pk_c rfl (pk_c rfl pk_n)))) (em_f (em_f (em_f (em_f (em_t (em_f (em_f (em_f (em_t (em_f (em_f (em_f (em_f (em_f (em_f (em_f (em_f (em_f (em_t (em_f (em_f (em_f (em_t (em_f (em_f (em_f (em_f (em_f em_n)))))))))))))))))))))))))))) rfl ml_X5_copyFrom wm_X1_54 (q0 := 0) rfl rfl rfl ⟨Nat.le_of_ble_eq_true rfl, Nat.le_of_ble_eq_true rfl⟩ ⟨Nat.zero_le _, Nat.zero_le _⟩ hl.1 rfl (Nat.le_of_ble_eq_true rfl) dX1_copyFrom_19 (fun H locs X => ?_)
  refine lv_iinc (v := 3) (lv' := [(2, .int 3), (0, .ref h), (1, .ref hq)]) hx hb dX1_copyFrom_22 hl (k := 0) rfl (by decide) (by decide) rfl (fun ls hl => ?_)
  refine lv_goto (tgt := 2) hx hb dX1_copyFrom_25 (by decide) ?_
  refine lv_iload_n hx hb dX1_copyFrom_2 rfl (lv_at hl 0 rfl) ?_
  refine lv_iconst (v := 4) hx hb dX1_copyFrom_3 (by decide) ?_
  refine lv_icmp_ge (tgt := 28) hx hb dX1_copyFrom_4 (by decide) (fun c0 => absurd c0 (by decide)) (fun _ => ?_)
  refine lv_aload_n hx hb dX1_copyFrom_7 rfl (lv_at hl 1 rfl) ?_
  refine get_ct_0 C hK X 0 rfl fl_X1_11 dX1_copyFrom_8 ?_
  refine lv_iload_n hx hb dX1_copyFrom_11 rfl (lv_at hl 0 rfl) ?_
  refine s_aald (t0 := 2) (b := a3) C hK X 1 rfl rfl (vp_in_nI (n := 3) (by decide) (by decide)) rfl dX1_copyFrom_12 ?_
  refine lv_aload_n hx hb dX1_copyFrom_13 rfl (lv_at hl 2 rfl) ?_
  refine get_ct_0 C hK X 14 rfl fl_X1_11 dX1_copyFrom_14 ?_
  refine lv_iload_n hx hb dX1_copyFrom_17 rfl (lv_at hl 0 rfl) ?_
  refine s_aald (t0 := 2) (b := a3q) C hK X 15 rfl rfl (vp_in_nI (n := 3) (by decide) (by decide)) rfl dX1_copyFrom_18 ?_
  refine s_cVv (ws' := [(h, ctE z aw al), (aw, waE ty a0 a1 a2 a3), (a0, whE (f_X5_copyFrom_h w0 w0q) m0), (a1, whE (f_X5_copyFrom_h w1 w1q) m1), (a2, whE (f_X5_copyFrom_h w2 w2q) m2), (a3, whE (f_X5_copyFrom_h w3 w3q) m3), (m0, arE ty 5 (f_X5_copyFrom_am f0 f0q)), (m1, arE ty 5 (f_X5_copyFrom_am f1 f1q)), (m2, arE ty 5 (f_X5_copyFrom_am f2 f2q)), (m3, arE ty 5 (f_X5_copyFrom_am f3 f3q)), (al, loE fi lc t k v), (t, arE ty 40 lt), (k, arE ty 40 lk), (v, arE ty 40 lv), (hq, ctE zq awq alq), (awq, waE ty a0q a1q a2q a3q), (a0q, whE w0q m0q), (a1q, whE w1q m1q), (a2q, whE w2q m2q), (a3q, whE w3q m3q), (m0q, arE ty 5 f0q), (m1q, arE ty 5 f1q), (m2q, arE ty 5 f2q), (m3q, arE ty 5 f3q), (alq, loE fiq lcq tq kq vq), (tq, arE ty 40 ltq), (kq, arE ty 40 lkq), (vq, arE ty 40 lvq)]) C hK hA X (c_X5_copyFrom l D ty a3 m3 w3 f3 a3q m3q w3q f3q he3 hf3) [5, 9, 19, 23] (pk_c rfl (pk_c rfl (pk_c rfl (pk_c rfl pk_n)))) rfl (pk_c rfl (pk_c rfl (pk_c rfl (pk_c rfl pk_n)))) (em_f (em_f (em_f (em_f (em_f (em_t (em_f (em_f (em_f (em_t (em_f (em_f (em_f (em_f (em_f (em_f (em_f (em_f (em_f (em_t (em_f (em_f (em_f (em_t (em_f (em_f (em_f (em_f em_n)))))))))))))))))))))))))))) rfl ml_X5_copyFrom wm_X1_54 (q0 := 0) rfl rfl rfl ⟨Nat.le_of_ble_eq_true rfl, Nat.le_of_ble_eq_true rfl⟩ ⟨Nat.zero_le _, Nat.zero_le _⟩ hl.1 rfl (Nat.le_of_ble_eq_true rfl) dX1_copyFrom_19 (fun H locs X => ?_)
  refine lv_iinc (v := 4) (lv' := [(2, .int 4), (0, .ref h), (1, .ref hq)]) hx hb dX1_copyFrom_22 hl (k := 0) rfl (by decide) (by decide) rfl (fun ls hl => ?_)
  refine lv_goto (tgt := 2) hx hb dX1_copyFrom_25 (by decide) ?_
  refine lv_iload_n hx hb dX1_copyFrom_2 rfl (lv_at hl 0 rfl) ?_
  refine lv_iconst (v := 4) hx hb dX1_copyFrom_3 (by decide) ?_
  refine lv_icmp_ge (tgt := 28) hx hb dX1_copyFrom_4 (by decide) (fun _ => ?_) (fun c0 => absurd (by decide) c0)
  refine lv_aload_n hx hb dX1_copyFrom_28 rfl (lv_at hl 1 rfl) ?_
  refine get_ct_1 C hK X 0 rfl fl_X1_21 dX1_copyFrom_29 ?_
  refine lv_aload_n hx hb dX1_copyFrom_32 rfl (lv_at hl 2 rfl) ?_
  refine get_ct_1 C hK X 14 rfl fl_X1_21 dX1_copyFrom_33 ?_
  refine s_cVv (ws' := [(h, ctE z aw al), (aw, waE ty a0 a1 a2 a3), (a0, whE (f_X5_copyFrom_h w0 w0q) m0), (a1, whE (f_X5_copyFrom_h w1 w1q) m1), (a2, whE (f_X5_copyFrom_h w2 w2q) m2), (a3, whE (f_X5_copyFrom_h w3 w3q) m3), (m0, arE ty 5 (f_X5_copyFrom_am f0 f0q)), (m1, arE ty 5 (f_X5_copyFrom_am f1 f1q)), (m2, arE ty 5 (f_X5_copyFrom_am f2 f2q)), (m3, arE ty 5 (f_X5_copyFrom_am f3 f3q)), (al, loE fiq lcq t k v), (t, arE ty 40 (f_X2_copyFrom_t lt ltq)), (k, arE ty 40 (f_X2_copyFrom_k lk lkq)), (v, arE ty 40 (f_X2_copyFrom_v lv lvq)), (hq, ctE zq awq alq), (awq, waE ty a0q a1q a2q a3q), (a0q, whE w0q m0q), (a1q, whE w1q m1q), (a2q, whE w2q m2q), (a3q, whE w3q m3q), (m0q, arE ty 5 f0q), (m1q, arE ty 5 f1q), (m2q, arE ty 5 f2q), (m3q, arE ty 5 f3q), (alq, loE fiq lcq tq kq vq), (tq, arE ty 40 ltq), (kq, arE ty 40 lkq), (vq, arE ty 40 lvq)]) C hK hA X (c_X2_copyFrom l D ty al t k v fi lc lt lk lv alq tq kq vq fiq lcq ltq lkq lvq) [10, 11, 12, 13, 24, 25, 26, 27] (pk_c rfl (pk_c rfl (pk_c rfl (pk_c rfl (pk_c rfl (pk_c rfl (pk_c rfl (pk_c rfl pk_n)))))))) rfl (pk_c rfl (pk_c rfl (pk_c rfl (pk_c rfl (pk_c rfl (pk_c rfl (pk_c rfl (pk_c rfl pk_n)))))))) (em_f (em_f (em_f (em_f (em_f (em_f (em_f (em_f (em_f (em_f (em_t (em_t (em_t (em_t (em_f (em_f (em_f (em_f (em_f (em_f (em_f (em_f (em_f (em_f (em_t (em_t (em_t (em_t em_n)))))))))))))))))))))))))))) rfl ml_X2_copyFrom wm_X1_58 (q0 := 0) rfl rfl rfl ⟨Nat.le_of_ble_eq_true rfl, Nat.le_of_ble_eq_true rfl⟩ ⟨Nat.zero_le _, Nat.zero_le _⟩ hl.1 rfl (Nat.le_of_ble_eq_true rfl) dX1_copyFrom_36 (fun H locs X => ?_)
  refine lv_aload_n hx hb dX1_copyFrom_39 rfl (lv_at hl 1 rfl) ?_
  refine lv_aload_n hx hb dX1_copyFrom_40 rfl (lv_at hl 2 rfl) ?_
  refine get_ct_2 C hK X 14 rfl fl_X1_33 dX1_copyFrom_41 ?_
  refine put_ct_2 C hK X 0 rfl pl_X1_33 hb4 dX1_copyFrom_44 (fun H locs X => ?_)
  have X : Wd D A s.heap [(h, ctE (upd z 4 (zq 4)) aw al), (aw, waE ty a0 a1 a2 a3), (a0, whE (f_X5_copyFrom_h w0 w0q) m0), (a1, whE (f_X5_copyFrom_h w1 w1q) m1), (a2, whE (f_X5_copyFrom_h w2 w2q) m2), (a3, whE (f_X5_copyFrom_h w3 w3q) m3), (m0, arE ty 5 (f_X5_copyFrom_am f0 f0q)), (m1, arE ty 5 (f_X5_copyFrom_am f1 f1q)), (m2, arE ty 5 (f_X5_copyFrom_am f2 f2q)), (m3, arE ty 5 (f_X5_copyFrom_am f3 f3q)), (al, loE fiq lcq t k v), (t, arE ty 40 (f_X2_copyFrom_t lt ltq)), (k, arE ty 40 (f_X2_copyFrom_k lk lkq)), (v, arE ty 40 (f_X2_copyFrom_v lv lvq)), (hq, ctE zq awq alq), (awq, waE ty a0q a1q a2q a3q), (a0q, whE w0q m0q), (a1q, whE w1q m1q), (a2q, whE w2q m2q), (a3q, whE w3q m3q), (m0q, arE ty 5 f0q), (m1q, arE ty 5 f1q), (m2q, arE ty 5 f2q), (m3q, arE ty 5 f3q), (alq, loE fiq lcq tq kq vq), (tq, arE ty 40 ltq), (kq, arE ty 40 lkq), (vq, arE ty 40 lvq)] H locs := X
  refine lv_aload_n hx hb dX1_copyFrom_47 rfl (lv_at hl 1 rfl) ?_
  refine lv_aload_n hx hb dX1_copyFrom_48 rfl (lv_at hl 2 rfl) ?_
  refine get_ct_3 C hK X 14 rfl fl_X1_42 dX1_copyFrom_49 ?_
  refine put_ct_3 C hK X 0 rfl pl_X1_42 dX1_copyFrom_52 (fun H locs X => ?_)
  have X : Wd D A s.heap [(h, ctE (upd (upd z 4 (zq 4)) 0 (zq 0)) aw al), (aw, waE ty a0 a1 a2 a3), (a0, whE (f_X5_copyFrom_h w0 w0q) m0), (a1, whE (f_X5_copyFrom_h w1 w1q) m1), (a2, whE (f_X5_copyFrom_h w2 w2q) m2), (a3, whE (f_X5_copyFrom_h w3 w3q) m3), (m0, arE ty 5 (f_X5_copyFrom_am f0 f0q)), (m1, arE ty 5 (f_X5_copyFrom_am f1 f1q)), (m2, arE ty 5 (f_X5_copyFrom_am f2 f2q)), (m3, arE ty 5 (f_X5_copyFrom_am f3 f3q)), (al, loE fiq lcq t k v), (t, arE ty 40 (f_X2_copyFrom_t lt ltq)), (k, arE ty 40 (f_X2_copyFrom_k lk lkq)), (v, arE ty 40 (f_X2_copyFrom_v lv lvq)), (hq, ctE zq awq alq), (awq, waE ty a0q a1q a2q a3q), (a0q, whE w0q m0q), (a1q, whE w1q m1q), (a2q, whE w2q m2q), (a3q, whE w3q m3q), (m0q, arE ty 5 f0q), (m1q, arE ty 5 f1q), (m2q, arE ty 5 f2q), (m3q, arE ty 5 f3q), (alq, loE fiq lcq tq kq vq), (tq, arE ty 40 ltq), (kq, arE ty 40 lkq), (vq, arE ty 40 lvq)] H locs := X
  refine lv_aload_n hx hb dX1_copyFrom_55 rfl (lv_at hl 1 rfl) ?_
  refine lv_aload_n hx hb dX1_copyFrom_56 rfl (lv_at hl 2 rfl) ?_
  refine get_ct_4 C hK X 14 rfl fl_X1_45 dX1_copyFrom_57 ?_
  refine put_ct_4 C hK X 0 rfl pl_X1_45 dX1_copyFrom_60 (fun H locs X => ?_)
  have X : Wd D A s.heap [(h, ctE (upd (upd (upd z 4 (zq 4)) 0 (zq 0)) 1 (zq 1)) aw al), (aw, waE ty a0 a1 a2 a3), (a0, whE (f_X5_copyFrom_h w0 w0q) m0), (a1, whE (f_X5_copyFrom_h w1 w1q) m1), (a2, whE (f_X5_copyFrom_h w2 w2q) m2), (a3, whE (f_X5_copyFrom_h w3 w3q) m3), (m0, arE ty 5 (f_X5_copyFrom_am f0 f0q)), (m1, arE ty 5 (f_X5_copyFrom_am f1 f1q)), (m2, arE ty 5 (f_X5_copyFrom_am f2 f2q)), (m3, arE ty 5 (f_X5_copyFrom_am f3 f3q)), (al, loE fiq lcq t k v), (t, arE ty 40 (f_X2_copyFrom_t lt ltq)), (k, arE ty 40 (f_X2_copyFrom_k lk lkq)), (v, arE ty 40 (f_X2_copyFrom_v lv lvq)), (hq, ctE zq awq alq), (awq, waE ty a0q a1q a2q a3q), (a0q, whE w0q m0q), (a1q, whE w1q m1q), (a2q, whE w2q m2q), (a3q, whE w3q m3q), (m0q, arE ty 5 f0q), (m1q, arE ty 5 f1q), (m2q, arE ty 5 f2q), (m3q, arE ty 5 f3q), (alq, loE fiq lcq tq kq vq), (tq, arE ty 40 ltq), (kq, arE ty 40 lkq), (vq, arE ty 40 lvq)] H locs := X
  refine lv_aload_n hx hb dX1_copyFrom_63 rfl (lv_at hl 1 rfl) ?_
  refine lv_aload_n hx hb dX1_copyFrom_64 rfl (lv_at hl 2 rfl) ?_
  refine get_ct_5 C hK X 14 rfl fl_X1_37 dX1_copyFrom_65 ?_
  refine put_ct_5 C hK X 0 rfl pl_X1_37 dX1_copyFrom_68 (fun H locs X => ?_)
  have X : Wd D A s.heap [(h, ctE (upd (upd (upd (upd z 4 (zq 4)) 0 (zq 0)) 1 (zq 1)) 2 (zq 2)) aw al), (aw, waE ty a0 a1 a2 a3), (a0, whE (f_X5_copyFrom_h w0 w0q) m0), (a1, whE (f_X5_copyFrom_h w1 w1q) m1), (a2, whE (f_X5_copyFrom_h w2 w2q) m2), (a3, whE (f_X5_copyFrom_h w3 w3q) m3), (m0, arE ty 5 (f_X5_copyFrom_am f0 f0q)), (m1, arE ty 5 (f_X5_copyFrom_am f1 f1q)), (m2, arE ty 5 (f_X5_copyFrom_am f2 f2q)), (m3, arE ty 5 (f_X5_copyFrom_am f3 f3q)), (al, loE fiq lcq t k v), (t, arE ty 40 (f_X2_copyFrom_t lt ltq)), (k, arE ty 40 (f_X2_copyFrom_k lk lkq)), (v, arE ty 40 (f_X2_copyFrom_v lv lvq)), (hq, ctE zq awq alq), (awq, waE ty a0q a1q a2q a3q), (a0q, whE w0q m0q), (a1q, whE w1q m1q), (a2q, whE w2q m2q), (a3q, whE w3q m3q), (m0q, arE ty 5 f0q), (m1q, arE ty 5 f1q), (m2q, arE ty 5 f2q), (m3q, arE ty 5 f3q), (alq, loE fiq lcq tq kq vq), (tq, arE ty 40 ltq), (kq, arE ty 40 lkq), (vq, arE ty 40 lvq)] H locs := X
  refine lv_aload_n hx hb dX1_copyFrom_71 rfl (lv_at hl 1 rfl) ?_
  refine lv_aload_n hx hb dX1_copyFrom_72 rfl (lv_at hl 2 rfl) ?_
  refine get_ct_6 C hK X 14 rfl fl_X1_48 dX1_copyFrom_73 ?_
  refine put_ct_6 C hK X 0 rfl pl_X1_48 dX1_copyFrom_76 (fun H locs X => ?_)
  have X : Wd D A s.heap [(h, ctE (upd (upd (upd (upd (upd z 4 (zq 4)) 0 (zq 0)) 1 (zq 1)) 2 (zq 2)) 3 (zq 3)) aw al), (aw, waE ty a0 a1 a2 a3), (a0, whE (f_X5_copyFrom_h w0 w0q) m0), (a1, whE (f_X5_copyFrom_h w1 w1q) m1), (a2, whE (f_X5_copyFrom_h w2 w2q) m2), (a3, whE (f_X5_copyFrom_h w3 w3q) m3), (m0, arE ty 5 (f_X5_copyFrom_am f0 f0q)), (m1, arE ty 5 (f_X5_copyFrom_am f1 f1q)), (m2, arE ty 5 (f_X5_copyFrom_am f2 f2q)), (m3, arE ty 5 (f_X5_copyFrom_am f3 f3q)), (al, loE fiq lcq t k v), (t, arE ty 40 (f_X2_copyFrom_t lt ltq)), (k, arE ty 40 (f_X2_copyFrom_k lk lkq)), (v, arE ty 40 (f_X2_copyFrom_v lv lvq)), (hq, ctE zq awq alq), (awq, waE ty a0q a1q a2q a3q), (a0q, whE w0q m0q), (a1q, whE w1q m1q), (a2q, whE w2q m2q), (a3q, whE w3q m3q), (m0q, arE ty 5 f0q), (m1q, arE ty 5 f1q), (m2q, arE ty 5 f2q), (m3q, arE ty 5 f3q), (alq, loE fiq lcq tq kq vq), (tq, arE ty 40 ltq), (kq, arE ty 40 lkq), (vq, arE ty 40 lvq)] H locs := X
  refine lv_aload_n hx hb dX1_copyFrom_79 rfl (lv_at hl 1 rfl) ?_
  refine lv_aload_n hx hb dX1_copyFrom_80 rfl (lv_at hl 2 rfl) ?_
  refine get_ct_7 C hK X 14 rfl fl_X1_51 dX1_copyFrom_81 ?_
  refine put_ct_7 C hK X 0 rfl pl_X1_51 hb5 dX1_copyFrom_84 (fun H locs X => ?_)
  have X : Wd D A s.heap [(h, ctE (upd (upd (upd (upd (upd (upd z 4 (zq 4)) 0 (zq 0)) 1 (zq 1)) 2 (zq 2)) 3 (zq 3)) 5 (zq 5)) aw al), (aw, waE ty a0 a1 a2 a3), (a0, whE (f_X5_copyFrom_h w0 w0q) m0), (a1, whE (f_X5_copyFrom_h w1 w1q) m1), (a2, whE (f_X5_copyFrom_h w2 w2q) m2), (a3, whE (f_X5_copyFrom_h w3 w3q) m3), (m0, arE ty 5 (f_X5_copyFrom_am f0 f0q)), (m1, arE ty 5 (f_X5_copyFrom_am f1 f1q)), (m2, arE ty 5 (f_X5_copyFrom_am f2 f2q)), (m3, arE ty 5 (f_X5_copyFrom_am f3 f3q)), (al, loE fiq lcq t k v), (t, arE ty 40 (f_X2_copyFrom_t lt ltq)), (k, arE ty 40 (f_X2_copyFrom_k lk lkq)), (v, arE ty 40 (f_X2_copyFrom_v lv lvq)), (hq, ctE zq awq alq), (awq, waE ty a0q a1q a2q a3q), (a0q, whE w0q m0q), (a1q, whE w1q m1q), (a2q, whE w2q m2q), (a3q, whE w3q m3q), (m0q, arE ty 5 f0q), (m1q, arE ty 5 f1q), (m2q, arE ty 5 f2q), (m3q, arE ty 5 f3q), (alq, loE fiq lcq tq kq vq), (tq, arE ty 40 ltq), (kq, arE ty 40 lkq), (vq, arE ty 40 lvq)] H locs := X
  have e_0_0 : (f_X1_copyFrom_h z zq) = (upd (upd (upd (upd (upd (upd z 4 (zq 4)) 0 (zq 0)) 1 (zq 1)) 2 (zq 2)) 3 (zq 3)) 5 (zq 5)) := by first | (rw [f_X1_copyFrom_h]; done) | (rw [f_X1_copyFrom_h]; rfl) | (simp only [f_X1_copyFrom_h]; done)
  have e_2_0 : (f_X1_copyFrom_a0 w0 w0q) = (f_X5_copyFrom_h w0 w0q) := by first | (rw [f_X1_copyFrom_a0]; done) | (rw [f_X1_copyFrom_a0]; rfl) | (simp only [f_X1_copyFrom_a0]; done)
  have e_3_0 : (f_X1_copyFrom_a1 w1 w1q) = (f_X5_copyFrom_h w1 w1q) := by first | (rw [f_X1_copyFrom_a1]; done) | (rw [f_X1_copyFrom_a1]; rfl) | (simp only [f_X1_copyFrom_a1]; done)
  have e_4_0 : (f_X1_copyFrom_a2 w2 w2q) = (f_X5_copyFrom_h w2 w2q) := by first | (rw [f_X1_copyFrom_a2]; done) | (rw [f_X1_copyFrom_a2]; rfl) | (simp only [f_X1_copyFrom_a2]; done)
  have e_5_0 : (f_X1_copyFrom_a3 w3 w3q) = (f_X5_copyFrom_h w3 w3q) := by first | (rw [f_X1_copyFrom_a3]; done) | (rw [f_X1_copyFrom_a3]; rfl) | (simp only [f_X1_copyFrom_a3]; done)
  have e_6_1 : (f_X1_copyFrom_m0 f0 f0q) = (f_X5_copyFrom_am f0 f0q) := by first | (rw [f_X1_copyFrom_m0]; done) | (rw [f_X1_copyFrom_m0]; rfl) | (simp only [f_X1_copyFrom_m0]; done)
  have e_7_1 : (f_X1_copyFrom_m1 f1 f1q) = (f_X5_copyFrom_am f1 f1q) := by first | (rw [f_X1_copyFrom_m1]; done) | (rw [f_X1_copyFrom_m1]; rfl) | (simp only [f_X1_copyFrom_m1]; done)
  have e_8_1 : (f_X1_copyFrom_m2 f2 f2q) = (f_X5_copyFrom_am f2 f2q) := by first | (rw [f_X1_copyFrom_m2]; done) | (rw [f_X1_copyFrom_m2]; rfl) | (simp only [f_X1_copyFrom_m2]; done)
  have e_9_1 : (f_X1_copyFrom_m3 f3 f3q) = (f_X5_copyFrom_am f3 f3q) := by first | (rw [f_X1_copyFrom_m3]; done) | (rw [f_X1_copyFrom_m3]; rfl) | (simp only [f_X1_copyFrom_m3]; done)
  have e_11_1 : (f_X1_copyFrom_t lt ltq) = (f_X2_copyFrom_t lt ltq) := by first | (rw [f_X1_copyFrom_t]; done) | (rw [f_X1_copyFrom_t]; rfl) | (simp only [f_X1_copyFrom_t]; done)
  have e_12_1 : (f_X1_copyFrom_k lk lkq) = (f_X2_copyFrom_k lk lkq) := by first | (rw [f_X1_copyFrom_k]; done) | (rw [f_X1_copyFrom_k]; rfl) | (simp only [f_X1_copyFrom_k]; done)
  have e_13_1 : (f_X1_copyFrom_v lv lvq) = (f_X2_copyFrom_v lv lvq) := by first | (rw [f_X1_copyFrom_v]; done) | (rw [f_X1_copyFrom_v]; rfl) | (simp only [f_X1_copyFrom_v]; done)
  exact hret _ _ _ _ _ dX1_copyFrom_87 X (by rw [e_0_0, e_2_0, e_3_0, e_4_0, e_5_0, e_6_1, e_7_1, e_8_1, e_9_1, e_11_1, e_12_1, e_13_1])
