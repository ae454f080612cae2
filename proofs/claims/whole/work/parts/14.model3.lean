def pop1 (m : F1) : F1 := va_cpy (upd (upd m 3 (m 113)) 111 (nI (pN m - 1))) (upd (upd m 3 (m 113)) 111 (nI (pN m - 1))) 114 112 (2 * (pN m - 1))
def popN (n : F1) : Nat → F1
  | 0 => n
  | i + 1 => pop1 (popN n i)
theorem pop1_111 (m : F1) : pop1 m 111 = nI (pN m - 1) := by unfold pop1; rw [cpy_lo (by omega)]; exact pk_us
theorem pop1_out {m : F1} (hM : MOK m) (q : Nat) (h : q < 111 ∧ q ≠ 3 ∨ 132 ≤ q) : pop1 m q = m q := by
  have hp := (pN_eq hM).2
  unfold pop1
  rcases h with h | h
  · rw [cpy_lo (by omega), pk_un (by omega), pk_un (by omega)]
  · rw [cpy_hi (by omega), pk_un (by omega), pk_un (by omega)]
theorem pop1_ok {m : F1} (hM : MOK m) (h0 : 0 < pN m) : MOK (pop1 m) ∧ pN (pop1 m) = pN m - 1 := by
  have hp := (pN_eq hM).2
  refine ⟨⟨?_, ?_, ?_, fun j hj => ?_⟩, ?_⟩
  · rw [pop1_out hM 74 (by omega)]; exact hM.1
  · rw [pop1_111, nI_toInt (by omega)]; omega
  · rw [pop1_out hM 132 (by omega)]; exact hM.2.2.1
  · rw [pop1_out hM _ (by omega)]; exact hM.2.2.2 j hj
  · show (pop1 m 111).toNatClampNeg = _
    rw [pop1_111, nI_clamp (by omega)]
theorem popN_ok {n : F1} (hM : MOK n) : ∀ i, i ≤ pN n → MOK (popN n i) ∧ pN (popN n i) = pN n - i
  | 0, _ => ⟨hM, rfl⟩
  | i + 1, h => by
    obtain ⟨h1, h2⟩ := popN_ok hM i (by omega)
    obtain ⟨h3, h4⟩ := pop1_ok h1 (by omega)
    exact ⟨h3, by show pN (pop1 (popN n i)) = _; rw [h4, h2]; omega⟩
def popP (n : F1) : Nat → Bool := fun i => decide (¬ (popN n i) 111 ≤ 0) && decide (¬ (popN n i) 2 < (popN n i) 112)
/-- how many entries' time has come -/
def popK (n : F1) : Nat := scanB (popP n) 10 0
theorem pl_ix (i : Nat) : 112 + nI i + 2 = nI (114 + i) := by
  rw [show (112 : Int32) = nI 112 from rfl, show (2 : Int32) = nI 2 from rfl, nI_add, nI_add]; congr 1; omega
theorem pos_nle {x : Int32} {k : Nat} (hx : x = nI k) (hk : k < 2 ^ 31) (c : ¬ x ≤ 0) : 0 < k := by
  rcases Nat.eq_zero_or_pos k with q | q
  · rw [hx, q] at c; exact absurd (by decide) c
  · exact q
def v_X7_followsPlan_3 (n : F1) (i : Nat) (i2 : Nat) : F1 := (upd (va_cpy (upd (upd (popN n i) 3 ((popN n i) 113)) 111 (nI (pN (popN n i) - 1))) (upd (upd (popN n i) 3 ((popN n i) 113)) 111 (nI (pN (popN n i) - 1))) 114 112 i2) (112 + i2) ((upd (upd (popN n i) 3 ((popN n i) 113)) 111 (nI (pN (popN n i) - 1))) (114 + i2)))
def f_X7_followsPlan_a (n : F1) : F1 := (popN n (popK n))
theorem popK_le {n : F1} (hM : MOK n) : popK n ≤ pN n := by
  rcases Nat.lt_or_ge (pN n) (popK n) with q | q
  · have h1 := scan_all (P := popP n) 10 0 (pN n) (Nat.zero_le _) q
    obtain ⟨h2, h3⟩ := popN_ok hM (pN n) (Nat.le_refl _)
    simp only [popP, Bool.and_eq_true, decide_eq_true_eq] at h1
    exact absurd (by rw [(pN_eq h2).1, h3, Nat.sub_self]; decide) h1.1
  · exact q
theorem follows_ok {n : F1} (hM : MOK n) : MOK (f_X7_followsPlan_a n) := (popN_ok hM _ (popK_le hM)).1
theorem ok_X7_followsPlan_a (n : F1) (hM : MOK n) : MOK (f_X7_followsPlan_a n) := follows_ok hM
set_option maxHeartbeats 4000000 in
set_option maxRecDepth 100000 in
theorem c_X7_followsPlan (l : Launch) (D : va_G) (ty : Nat → ClassId) (o : Nat) (a : Nat) (b : Nat) (c_ : Nat) (g : F1) (hs : Int64) (n : F1) (hM : MOK n) : MC l D ty yX7_followsPlan cX7_followsPlan 2 none 0 [.ref o] [(o, moE g hs a b c_), (a, arE ty 253 n)] none [(o, moE g hs a b c_), (a, arE ty 253 (f_X7_followsPlan_a n))] := by
  refine mc_v (by decide +kernel) (Nat.le_of_ble_eq_true rfl) ?_
  intro p e s m args below meth c A Q ls C hK hA X hret hl
  have hx := C.1
  have hb := C.2.1
  have hl : lv_has ls 2 [(0, .ref o)] := hl
  have X : Wd D A s.heap [(o, moE g hs a b c_), (a, arE ty 253 n)] s.heap [] := X
  have K1 : ∀ (y1_0 : F1) (ls : Array Slot) (H : Heap) (locs : List Loc), y1_0 = (popN n (popK n)) → lv_has ls 2 [(0, .ref o)] → Wd D A s.heap [(o, moE g hs a b c_), (a, arE ty 253 y1_0)] H locs → W p l e (rmD 0) s m args below meth c H locs 0 0 Q (F0 m 94 ls []) := by
    intro y1_0 ls H locs ey1_0 hl X
    replace ey1_0 := ey1_0.symm; subst ey1_0
    have e_1_0 : (f_X7_followsPlan_a n) = (popN n (popK n)) := by first | (rw [f_X7_followsPlan_a]; done) | (rw [f_X7_followsPlan_a]; rfl) | (simp only [f_X7_followsPlan_a]; done)
    exact hret _ _ _ _ _ dX7_followsPlan_94 X (by rw [e_1_0])
  have L1 : ∀ (kf i : Nat) (y1_0 : F1) (ls : Array Slot) (H : Heap) (locs : List Loc), 10 - i < kf → (i ≤ pN n ∧ scanB (popP n) (10 - i) i = popK n) → y1_0 = (popN n i) → lv_has ls 2 [(0, .ref o)] → Wd D A s.heap [(o, moE g hs a b c_), (a, arE ty 253 y1_0)] H locs → W p l e (rmD 0) s m args below meth c H locs 0 0 Q (F0 m 0 ls []) := by
    intro kf
    induction kf with
    | zero => intro i y1_0 ls H locs hk; exact absurd hk (Nat.not_lt_zero _)
    | succ kf ih1 =>
      intro i y1_0 ls H locs hk hI ey1_0 hl X
      replace ey1_0 := ey1_0.symm; subst ey1_0
      obtain ⟨hI1, hI2⟩ := hI
      obtain ⟨hO1, hO2⟩ := popN_ok hM i hI1
      obtain ⟨hn, hp⟩ := pN_eq hO1
      have hp0 := (pN_eq hM).2
      refine lv_aload_n hx hb dX7_followsPlan_0 rfl (lv_at hl 0 rfl) ?_
      refine get_mo_0 C hK X 0 rfl fl_X7_7 dX7_followsPlan_1 ?_
      refine lv_bipush (v := 111) hx hb dX7_followsPlan_4 (by decide) ?_
      refine s_ialN C hK X 1 111 rfl rfl (by decide) (by decide) dX7_followsPlan_6 ?_
      refine lv_if_le (tgt := 94) hx hb dX7_followsPlan_7 (by decide) (fun c0_0 => ?_) (fun c0_0 => ?_)
      · have hE : popK n = i := by rw [← hI2]; exact scan_stop (by simp [popP, c0_0])
        exact K1 (popN n i) _ _ _ (by rw [hE]) (lv_sub hl [0] rfl) X
      · refine lv_aload_n hx hb dX7_followsPlan_10 rfl (lv_at hl 0 rfl) ?_
        refine get_mo_0 C hK X 0 rfl fl_X7_7 dX7_followsPlan_11 ?_
        refine lv_bipush (v := 112) hx hb dX7_followsPlan_14 (by decide) ?_
        refine s_ialN C hK X 1 112 rfl rfl (by decide) (by decide) dX7_followsPlan_16 ?_
        refine lv_aload_n hx hb dX7_followsPlan_17 rfl (lv_at hl 0 rfl) ?_
        refine get_mo_0 C hK X 0 rfl fl_X7_7 dX7_followsPlan_18 ?_
        refine lv_iconst (v := 2) hx hb dX7_followsPlan_21 (by decide) ?_
        refine s_ialN C hK X 1 2 rfl rfl (by decide) (by decide) dX7_followsPlan_22 ?_
        refine lv_icmp_gt (tgt := 94) hx hb dX7_followsPlan_23 (by decide) (fun c1_1 => ?_) (fun c1_1 => ?_)
        · have hE : popK n = i := by rw [← hI2]; exact scan_stop (by simp [popP, c1_1])
          exact K1 (popN n i) _ _ _ (by rw [hE]) (lv_sub hl [0] rfl) X
        · have h0 : 0 < pN (popN n i) := pos_nle hn (by omega) c0_0
          refine lv_aload_n hx hb dX7_followsPlan_26 rfl (lv_at hl 0 rfl) ?_
          refine get_mo_0 C hK X 0 rfl fl_X7_7 dX7_followsPlan_27 ?_
          refine lv_iconst (v := 3) hx hb dX7_followsPlan_30 (by decide) ?_
          refine lv_aload_n hx hb dX7_followsPlan_31 rfl (lv_at hl 0 rfl) ?_
          refine get_mo_0 C hK X 0 rfl fl_X7_7 dX7_followsPlan_32 ?_
          refine lv_bipush (v := 113) hx hb dX7_followsPlan_35 (by decide) ?_
          refine s_ialN C hK X 1 113 rfl rfl (by decide) (by decide) dX7_followsPlan_37 ?_
          refine s_iasN C hK X 1 3 rfl rfl (by decide) (by decide) dX7_followsPlan_38 (fun H locs X => ?_)
          have X : Wd D A s.heap [(o, moE g hs a b c_), (a, arE ty 253 (upd (popN n i) 3 ((popN n i) 113)))] H locs := X
          refine lv_aload_n hx hb dX7_followsPlan_39 rfl (lv_at hl 0 rfl) ?_
          refine get_mo_0 C hK X 0 rfl fl_X7_7 dX7_followsPlan_40 ?_
          refine lv_bipush (v := 111) hx hb dX7_followsPlan_43 (by decide) ?_
          refine lv_dup2_11 hx hb dX7_followsPlan_45 rfl rfl ?_
          refine s_ialN C hK X 1 111 rfl rfl (by decide) (by decide) dX7_followsPlan_46 ?_
          refine s_eqi (y := ((popN n i) 111)) (pk_un (by decide)) ?_
          refine s_eqi (y := nI (pN (popN n i))) (hn) ?_
          refine lv_iconst (v := 1) hx hb dX7_followsPlan_47 (by decide) ?_
          refine lv_isub hx hb dX7_followsPlan_48 ?_
          refine s_eqi (y := nI (pN (popN n i) - 1)) (sb_m1s h0) ?_
          refine s_iasN C hK X 1 111 rfl rfl (by decide) (by decide) dX7_followsPlan_49 (fun H locs X => ?_)
          have X : Wd D A s.heap [(o, moE g hs a b c_), (a, arE ty 253 (upd (upd (popN n i) 3 ((popN n i) 113)) 111 (nI (pN (popN n i) - 1))))] H locs := X
          refine lv_iconst (v := 0) hx hb dX7_followsPlan_50 (by decide) ?_
          refine lv_istore_n (lv' := [(1, .int 0), (0, .ref o)]) hx hb dX7_followsPlan_51 rfl hl (by decide) rfl (fun ls hl => ?_)
          have K2 : ∀ (y2_0 : Int32) (y2_1 : F1) (ls : Array Slot) (H : Heap) (locs : List Loc), y2_0 = (nI (2 * (pN (popN n i) - 1))) → y2_1 = (va_cpy (upd (upd (popN n i) 3 ((popN n i) 113)) 111 (nI (pN (popN n i) - 1))) (upd (upd (popN n i) 3 ((popN n i) 113)) 111 (nI (pN (popN n i) - 1))) 114 112 (2 * (pN (popN n i) - 1))) → lv_has ls 2 [(1, .int y2_0), (0, .ref o)] → Wd D A s.heap [(o, moE g hs a b c_), (a, arE ty 253 y2_1)] H locs → W p l e (rmD 0) s m args below meth c H locs 0 0 Q (F0 m 91 ls []) := by
            intro y2_0 y2_1 ls H locs ey2_0 ey2_1 hl X
            replace ey2_0 := ey2_0.symm; subst ey2_0; replace ey2_1 := ey2_1.symm; subst ey2_1
            refine lv_goto (tgt := 0) hx hb dX7_followsPlan_91 (by decide) ?_
            have h0 : 0 < pN (popN n i) := pos_nle hn (by omega) c0_0
            have hP : popP n i = true := by simp only [popP, Bool.and_eq_true, decide_eq_true_eq]; exact ⟨c0_0, c1_1⟩
            exact ih1 (i + 1) (va_cpy (upd (upd (popN n i) 3 ((popN n i) 113)) 111 (nI (pN (popN n i) - 1))) (upd (upd (popN n i) 3 ((popN n i) 113)) 111 (nI (pN (popN n i) - 1))) 114 112 (2 * (pN (popN n i) - 1))) _ _ _ (by omega) ⟨by omega, by rw [← hI2, ← scan_go (k := 10 - i) (by omega) hP, show 10 - (i + 1) = 10 - i - 1 by omega]⟩ rfl (lv_sub hl [1] rfl) X
          have L2 : ∀ (kf2 i2 : Nat) (y2_0 : Int32) (y2_1 : F1) (ls : Array Slot) (H : Heap) (locs : List Loc), (2 * (pN (popN n i) - 1)) - i2 < kf2 → (i2 ≤ 2 * (pN (popN n i) - 1)) → y2_0 = (nI i2) → y2_1 = (va_cpy (upd (upd (popN n i) 3 ((popN n i) 113)) 111 (nI (pN (popN n i) - 1))) (upd (upd (popN n i) 3 ((popN n i) 113)) 111 (nI (pN (popN n i) - 1))) 114 112 i2) → lv_has ls 2 [(1, .int y2_0), (0, .ref o)] → Wd D A s.heap [(o, moE g hs a b c_), (a, arE ty 253 y2_1)] H locs → W p l e (rmD 0) s m args below meth c H locs 0 0 Q (F0 m 52 ls []) := by
            intro kf2
            induction kf2 with
            | zero => intro i2 y2_0 y2_1 ls H locs hk; exact absurd hk (Nat.not_lt_zero _)
            | succ kf2 ih2 =>
              intro i2 y2_0 y2_1 ls H locs hk2 hI2 ey2_0 ey2_1 hl X
              replace ey2_0 := ey2_0.symm; subst ey2_0; replace ey2_1 := ey2_1.symm; subst ey2_1
              refine lv_iload_n hx hb dX7_followsPlan_52 rfl (lv_at hl 0 rfl) ?_
              refine lv_iconst (v := 2) hx hb dX7_followsPlan_53 (by decide) ?_
              refine lv_aload_n hx hb dX7_followsPlan_54 rfl (lv_at hl 1 rfl) ?_
              refine get_mo_0 C hK X 0 rfl fl_X7_7 dX7_followsPlan_55 ?_
              refine lv_bipush (v := 111) hx hb dX7_followsPlan_58 (by decide) ?_
              refine s_ialN C hK X 1 111 rfl rfl (by decide) (by decide) dX7_followsPlan_60 ?_
              refine s_eqi (y := nI (pN (popN n i) - 1)) ((cpy_lo (by omega)).trans pk_us) ?_
              refine lv_imul hx hb dX7_followsPlan_61 ?_
              refine s_eqi (y := nI (2 * (pN (popN n i) - 1))) (pk_mul 2 _) ?_
              refine lv_icmp_ge (tgt := 91) hx hb dX7_followsPlan_62 (by decide) (fun c2_2 => ?_) (fun c2_2 => ?_)
              · have hE2 : i2 = (2 * (pN (popN n i) - 1)) := eq_of_nIle (by omega) (by omega) hI2 c2_2
                exact K2 (nI i2) (va_cpy (upd (upd (popN n i) 3 ((popN n i) 113)) 111 (nI (pN (popN n i) - 1))) (upd (upd (popN n i) 3 ((popN n i) 113)) 111 (nI (pN (popN n i) - 1))) 114 112 i2) _ _ _ (by rw [hE2]) (by rw [hE2]) (lv_sub hl [0, 1] rfl) X
              · have h2 : i2 < (2 * (pN (popN n i) - 1)) := lt_of_nnIle (by omega) (by omega) c2_2
                refine lv_aload_n hx hb dX7_followsPlan_65 rfl (lv_at hl 1 rfl) ?_
                refine get_mo_0 C hK X 0 rfl fl_X7_7 dX7_followsPlan_66 ?_
                refine lv_bipush (v := 112) hx hb dX7_followsPlan_69 (by decide) ?_
                refine lv_iload_n hx hb dX7_followsPlan_71 rfl (lv_at hl 0 rfl) ?_
                refine lv_iadd hx hb dX7_followsPlan_72 ?_
                refine s_eqi (y := nI (112 + i2)) (nI_add 112 i2) ?_
                refine lv_aload_n hx hb dX7_followsPlan_73 rfl (lv_at hl 1 rfl) ?_
                refine get_mo_0 C hK X 0 rfl fl_X7_7 dX7_followsPlan_74 ?_
                refine lv_bipush (v := 112) hx hb dX7_followsPlan_77 (by decide) ?_
                refine lv_iload_n hx hb dX7_followsPlan_79 rfl (lv_at hl 0 rfl) ?_
                refine lv_iadd hx hb dX7_followsPlan_80 ?_
                refine lv_iconst (v := 2) hx hb dX7_followsPlan_81 (by decide) ?_
                refine lv_iadd hx hb dX7_followsPlan_82 ?_
                refine s_eqi (y := nI (114 + i2)) (pl_ix i2) ?_
                refine s_ialN C hK X 1 (114 + i2) rfl rfl (by omega) (by decide) dX7_followsPlan_83 ?_
                refine s_eqi (y := (upd (upd (popN n i) 3 ((popN n i) 113)) 111 (nI (pN (popN n i) - 1))) (114 + i2)) (cpy_at (by omega)) ?_
                refine s_iasN C hK X 1 (112 + i2) rfl rfl (by omega) (by decide) dX7_followsPlan_84 (fun H locs X => ?_)
                have X : Wd D A s.heap [(o, moE g hs a b c_), (a, arE ty 253 (v_X7_followsPlan_3 n i i2))] H locs := X
                refine lv_iinc (v := ((nI i2) + 1)) (lv' := [(1, .int ((nI i2) + 1)), (0, .ref o)]) hx hb dX7_followsPlan_85 hl (k := 0) rfl rfl (by decide) rfl (fun ls hl => ?_)
                refine lv_goto (tgt := 52) hx hb dX7_followsPlan_88 (by decide) ?_
                have h2 : i2 < (2 * (pN (popN n i) - 1)) := lt_of_nnIle (by omega) (by omega) c2_2
                exact ih2 (i2 + 1) ((nI i2) + 1) (v_X7_followsPlan_3 n i i2) _ _ _ (by omega) (by omega) (nI_1 i2) cpy_step (lv_sub hl [0, 1] rfl) X
          exact L2 ((2 * (pN (popN n i) - 1)) + 1) 0 0 (upd (upd (popN n i) 3 ((popN n i) 113)) 111 (nI (pN (popN n i) - 1))) _ _ _ (by omega) (Nat.zero_le _) rfl cpy_0.symm (lv_sub hl [0, 1] rfl) X
  exact L1 (10 + 1) 0 n _ _ _ (by omega) ⟨Nat.zero_le _, rfl⟩ rfl (lv_sub hl [0] rfl) X
def v_X7_tickOn_1 (n : F1) : F1 := (upd (f_X7_followsPlan_a (upd n 2 ((n 2) + 1))) 1 (((f_X7_followsPlan_a (upd n 2 ((n 2) + 1))) 1) + (((f_X7_followsPlan_a (upd n 2 ((n 2) + 1))) 0) / 100)))
theorem okm_X7_tickOn_2 (n : F1) (hM : MOK n) : MOK (v_X7_tickOn_1 n) := by
  exact (MOK_i (by decide) (ok_X7_followsPlan_a (upd n 2 ((n 2) + 1)) (MOK_i (by decide) hM)))
def v_X7_tickOn_3 (n : F1) : F1 := (upd (v_X7_tickOn_1 n) 0 (f_X7_greater 0 (((v_X7_tickOn_1 n) 0) - (((((f_X7_frictionAt (f_X7_followsPlan_a (upd n 2 ((n 2) + 1))) 0) + (f_X7_frictionAt (f_X7_followsPlan_a (upd n 2 ((n 2) + 1))) 1)) + (f_X7_frictionAt (f_X7_followsPlan_a (upd n 2 ((n 2) + 1))) 2)) + (f_X7_frictionAt (f_X7_followsPlan_a (upd n 2 ((n 2) + 1))) 3)) / 40))))
theorem okm_X7_tickOn_4 (n : F1) (hM : MOK n) : MOK (v_X7_tickOn_3 n) := by
  exact (MOK_i (by decide) (okm_X7_tickOn_2 n hM))
def v_X7_tickOn_5 (n : F1) : Int32 := (((v_X7_tickOn_3 n) 10) + (2 * ((f_X7_frictionAt (f_X7_followsPlan_a (upd n 2 ((n 2) + 1))) 0) - ((v_X7_tickOn_3 n) 11))))
def v_X7_tickOn_6 (n : F1) : Int32 := (if 0 ≤ (v_X7_tickOn_5 n) then (f_X7_lesser (v_X7_tickOn_5 n) ((v_X7_tickOn_3 n) 0)) else 0)
def v_X7_tickOn_8 (n : F1) : Int32 := (((f_X7_sets_a (v_X7_tickOn_3 n) (v_X7_tickOn_6 n) 10) 26) + (2 * ((f_X7_frictionAt (f_X7_followsPlan_a (upd n 2 ((n 2) + 1))) 1) - ((f_X7_sets_a (v_X7_tickOn_3 n) (v_X7_tickOn_6 n) 10) 27))))
def v_X7_tickOn_9 (n : F1) : Int32 := (if 0 ≤ (v_X7_tickOn_8 n) then (f_X7_lesser (v_X7_tickOn_8 n) ((f_X7_sets_a (v_X7_tickOn_3 n) (v_X7_tickOn_6 n) 10) 0)) else 0)
def v_X7_tickOn_11 (n : F1) : Int32 := (((f_X7_sets_a (f_X7_sets_a (v_X7_tickOn_3 n) (v_X7_tickOn_6 n) 10) (v_X7_tickOn_9 n) 26) 42) + (2 * ((f_X7_frictionAt (f_X7_followsPlan_a (upd n 2 ((n 2) + 1))) 2) - ((f_X7_sets_a (f_X7_sets_a (v_X7_tickOn_3 n) (v_X7_tickOn_6 n) 10) (v_X7_tickOn_9 n) 26) 43))))
def v_X7_tickOn_12 (n : F1) : Int32 := (if 0 ≤ (v_X7_tickOn_11 n) then (f_X7_lesser (v_X7_tickOn_11 n) ((f_X7_sets_a (f_X7_sets_a (v_X7_tickOn_3 n) (v_X7_tickOn_6 n) 10) (v_X7_tickOn_9 n) 26) 0)) else 0)
def v_X7_tickOn_14 (n : F1) : F1 := (f_X7_sets_a (f_X7_sets_a (f_X7_sets_a (v_X7_tickOn_3 n) (v_X7_tickOn_6 n) 10) (v_X7_tickOn_9 n) 26) (v_X7_tickOn_12 n) 42)
theorem okm_X7_tickOn_15 (n : F1) (hM : MOK n) : MOK (v_X7_tickOn_14 n) := by
  exact (MOK_w (j := 2) (k := 0) (by omega) (by decide) (MOK_w (j := 1) (k := 0) (by omega) (by decide) (MOK_w (j := 0) (k := 0) (by omega) (by decide) (okm_X7_tickOn_4 n hM))))
def v_X7_tickOn_16 (n : F1) : Int32 := (((v_X7_tickOn_14 n) 58) + (2 * ((f_X7_frictionAt (f_X7_followsPlan_a (upd n 2 ((n 2) + 1))) 3) - ((v_X7_tickOn_14 n) 59))))
def v_X7_tickOn_17 (n : F1) : Int32 := (if 0 ≤ (v_X7_tickOn_16 n) then (f_X7_lesser (v_X7_tickOn_16 n) ((v_X7_tickOn_14 n) 0)) else 0)
def v_X7_tickOn_19 (n : F1) : F1 := (f_X7_controls_a (f_X7_dropsSegments_a (f_X7_sets_a (v_X7_tickOn_14 n) (v_X7_tickOn_17 n) 58)))
theorem okm_X7_tickOn_20 (n : F1) (hM : MOK n) : MOK (v_X7_tickOn_19 n) := by
  exact (ok_X7_controls_a (f_X7_dropsSegments_a (f_X7_sets_a (v_X7_tickOn_14 n) (v_X7_tickOn_17 n) 58)) (ok_X7_dropsSegments_a (f_X7_sets_a (v_X7_tickOn_14 n) (v_X7_tickOn_17 n) 58) (MOK_w (j := 3) (k := 0) (by omega) (by decide) (okm_X7_tickOn_15 n hM))))
def v_X7_tickOn_21 (n : F1) : Int32 := (if ((v_X7_tickOn_19 n) 10) = 0 then (if ((v_X7_tickOn_19 n) 0) ≤ 1400 then 0 else 1) else 0)
def v_X7_tickOn_23 (n : F1) : Int32 := (if ((f_X7_sets_a (v_X7_tickOn_19 n) (((v_X7_tickOn_19 n) 16) + (v_X7_tickOn_21 n)) 16) 26) = 0 then (if ((f_X7_sets_a (v_X7_tickOn_19 n) (((v_X7_tickOn_19 n) 16) + (v_X7_tickOn_21 n)) 16) 0) ≤ 1400 then 0 else 1) else 0)
def v_X7_tickOn_25 (n : F1) : F1 := (f_X7_sets_a (f_X7_sets_a (v_X7_tickOn_19 n) (((v_X7_tickOn_19 n) 16) + (v_X7_tickOn_21 n)) 16) (((f_X7_sets_a (v_X7_tickOn_19 n) (((v_X7_tickOn_19 n) 16) + (v_X7_tickOn_21 n)) 16) 32) + (v_X7_tickOn_23 n)) 32)
theorem okm_X7_tickOn_26 (n : F1) (hM : MOK n) : MOK (v_X7_tickOn_25 n) := by
  exact (MOK_w (j := 1) (k := 6) (by omega) (by decide) (MOK_w (j := 0) (k := 6) (by omega) (by decide) (okm_X7_tickOn_20 n hM)))
def v_X7_tickOn_27 (n : F1) : Int32 := (if ((v_X7_tickOn_25 n) 42) = 0 then (if ((v_X7_tickOn_25 n) 0) ≤ 1400 then 0 else 1) else 0)
def v_X7_tickOn_29 (n : F1) : Int32 := (if ((f_X7_sets_a (v_X7_tickOn_25 n) (((v_X7_tickOn_25 n) 48) + (v_X7_tickOn_27 n)) 48) 58) = 0 then (if ((f_X7_sets_a (v_X7_tickOn_25 n) (((v_X7_tickOn_25 n) 48) + (v_X7_tickOn_27 n)) 48) 0) ≤ 1400 then 0 else 1) else 0)
def v_X7_tickOn_31 (n : F1) : F1 := (f_X7_sets_a (f_X7_sets_a (v_X7_tickOn_25 n) (((v_X7_tickOn_25 n) 48) + (v_X7_tickOn_27 n)) 48) (((f_X7_sets_a (v_X7_tickOn_25 n) (((v_X7_tickOn_25 n) 48) + (v_X7_tickOn_27 n)) 48) 64) + (v_X7_tickOn_29 n)) 64)
theorem okm_X7_tickOn_32 (n : F1) (hM : MOK n) : MOK (v_X7_tickOn_31 n) := by
  exact (MOK_w (j := 3) (k := 6) (by omega) (by decide) (MOK_w (j := 2) (k := 6) (by omega) (by decide) (okm_X7_tickOn_26 n hM)))
theorem ok_X7_tickOn_a (n : F1) (hM : MOK n) : MOK (v_X7_tickOn_31 n) := by
  (try simp only []); exact (okm_X7_tickOn_32 n hM)
set_option maxHeartbeats 4000000 in
set_option maxRecDepth 100000 in
theorem c_X7_tickOn (l : Launch) (D : va_G) (ty : Nat → ClassId) (o : Nat) (a : Nat) (b : Nat) (c_ : Nat) (g : F1) (hs : Int64) (n : F1) (hM : MOK n) : MC l D ty yX7_tickOn cX7_tickOn 8 none 8 [.ref o] [(o, moE g hs a b c_), (a, arE ty 253 n)] none [(o, moE g hs a b c_), (a, arE ty 253 (v_X7_tickOn_31 n))] := by
  refine mc_v (by decide +kernel) (Nat.le_of_ble_eq_true rfl) ?_
  intro p e s m args below meth c A Q ls C hK hA X hret hl
  have hx := C.1
  have hb := C.2.1
  have hl : lv_has ls 8 [(0, .ref o)] := hl
  have X : Wd D A s.heap [(o, moE g hs a b c_), (a, arE ty 253 n)] s.heap [] := X
  refine lv_aload_n hx hb dX7_tickOn_0 rfl (lv_at hl 0 rfl) ?_
  refine get_mo_0 C hK X 0 rfl fl_X7_7 dX7_tickOn_1 ?_
  refine lv_iconst (v := 2) hx hb dX7_tickOn_4 (by decide) ?_
  refine lv_dup2_11 hx hb dX7_tickOn_5 rfl rfl ?_
  refine s_ialN C hK X 1 2 rfl rfl (by decide) (by decide) dX7_tickOn_6 ?_
  refine lv_iconst (v := 1) hx hb dX7_tickOn_7 (by decide) ?_
  refine lv_iadd hx hb dX7_tickOn_8 ?_
  refine s_iasN C hK X 1 2 rfl rfl (by decide) (by decide) dX7_tickOn_9 (fun H locs X => ?_)
  have X : Wd D A s.heap [(o, moE g hs a b c_), (a, arE ty 253 (upd n 2 ((n 2) + 1)))] H locs := X
  refine lv_aload_n hx hb dX7_tickOn_10 rfl (lv_at hl 0 rfl) ?_
  refine s_cVv (ws' := [(o, moE g hs a b c_), (a, arE ty 253 (f_X7_followsPlan_a (upd n 2 ((n 2) + 1))))]) C hK hA X (c_X7_followsPlan l D ty o a b c_ g hs (upd n 2 ((n 2) + 1)) (MOK_i (by decide) hM)) [0, 1] (pk_c rfl (pk_c rfl pk_n)) rfl (pk_c rfl (pk_c rfl pk_n)) (em_t (em_t em_n)) rfl ml_X7_followsPlan wm_X7_130 (q0 := 0) rfl rfl rfl ⟨Nat.le_of_ble_eq_true rfl, Nat.le_of_ble_eq_true rfl⟩ ⟨Nat.zero_le _, Nat.zero_le _⟩ hl.1 rfl (Nat.le_of_ble_eq_true rfl) dX7_tickOn_11 (fun H locs X => ?_)
  refine lv_aload_n hx hb dX7_tickOn_14 rfl (lv_at hl 0 rfl) ?_
  refine lv_iconst (v := 0) hx hb dX7_tickOn_15 (by decide) ?_
  refine s_cV0i C hK hA X (c_X7_frictionAt l D ty o a b c_ g hs (f_X7_followsPlan_a (upd n 2 ((n 2) + 1))) 0 (ok_X7_followsPlan_a (upd n 2 ((n 2) + 1)) (MOK_i (by decide) hM)) (by decide)) [0, 1] (pk_c rfl (pk_c rfl pk_n)) rfl ml_X7_frictionAt wm_X7_133 (q0 := 0) rfl rfl rfl ⟨Nat.le_of_ble_eq_true rfl, Nat.le_of_ble_eq_true rfl⟩ ⟨Nat.zero_le _, Nat.zero_le _⟩ hl.1 rfl (Nat.le_of_ble_eq_true rfl) dX7_tickOn_16 (fun H locs X => ?_)
  refine lv_istore_n (lv' := [(1, .int (f_X7_frictionAt (f_X7_followsPlan_a (upd n 2 ((n 2) + 1))) 0)), (0, .ref o)]) hx hb dX7_tickOn_19 rfl hl (by decide) rfl (fun ls hl => ?_)
  refine lv_aload_n hx hb dX7_tickOn_20 rfl (lv_at hl 1 rfl) ?_
  refine lv_iconst (v := 1) hx hb dX7_tickOn_21 (by decide) ?_
  refine s_cV0i C hK hA X (c_X7_frictionAt l D ty o a b c_ g hs (f_X7_followsPlan_a (upd n 2 ((n 2) + 1))) 1 (ok_X7_followsPlan_a (upd n 2 ((n 2) + 1)) (MOK_i (by decide) hM)) (by decide)) [0, 1] (pk_c rfl (pk_c rfl pk_n)) rfl ml_X7_frictionAt wm_X7_133 (q0 := 0) rfl rfl rfl ⟨Nat.le_of_ble_eq_true rfl, Nat.le_of_ble_eq_true rfl⟩ ⟨Nat.zero_le _, Nat.zero_le _⟩ hl.1 rfl (Nat.le_of_ble_eq_true rfl) dX7_tickOn_22 (fun H locs X => ?_)
  refine lv_istore_n (lv' := [(2, .int (f_X7_frictionAt (f_X7_followsPlan_a (upd n 2 ((n 2) + 1))) 1)), (1, .int (f_X7_frictionAt (f_X7_followsPlan_a (upd n 2 ((n 2) + 1))) 0)), (0, .ref o)]) hx hb dX7_tickOn_25 rfl hl (by decide) rfl (fun ls hl => ?_)
  refine lv_aload_n hx hb dX7_tickOn_26 rfl (lv_at hl 2 rfl) ?_
  refine lv_iconst (v := 2) hx hb dX7_tickOn_27 (by decide) ?_
  refine s_cV0i C hK hA X (c_X7_frictionAt l D ty o a b c_ g hs (f_X7_followsPlan_a (upd n 2 ((n 2) + 1))) 2 (ok_X7_followsPlan_a (upd n 2 ((n 2) + 1)) (MOK_i (by decide) hM)) (by decide)) [0, 1] (pk_c rfl (pk_c rfl pk_n)) rfl ml_X7_frictionAt wm_X7_133 (q0 := 0) rfl rfl rfl ⟨Nat.le_of_ble_eq_true rfl, Nat.le_of_ble_eq_true rfl⟩ ⟨Nat.zero_le _, Nat.zero_le _⟩ hl.1 rfl (Nat.le_of_ble_eq_true rfl) dX7_tickOn_28 (fun H locs X => ?_)
  refine lv_istore_n (lv' := [(3, .int (f_X7_frictionAt (f_X7_followsPlan_a (upd n 2 ((n 2) + 1))) 2)), (2, .int (f_X7_frictionAt (f_X7_followsPlan_a (upd n 2 ((n 2) + 1))) 1)), (1, .int (f_X7_frictionAt (f_X7_followsPlan_a (upd n 2 ((n 2) + 1))) 0)), (0, .ref o)]) hx hb dX7_tickOn_31 rfl hl (by decide) rfl (fun ls hl => ?_)
  refine lv_aload_n hx hb dX7_tickOn_32 rfl (lv_at hl 3 rfl) ?_
  refine lv_iconst (v := 3) hx hb dX7_tickOn_33 (by decide) ?_
  refine s_cV0i C hK hA X (c_X7_frictionAt l D ty o a b c_ g hs (f_X7_followsPlan_a (upd n 2 ((n 2) + 1))) 3 (ok_X7_followsPlan_a (upd n 2 ((n 2) + 1)) (MOK_i (by decide) hM)) (by decide)) [0, 1] (pk_c rfl (pk_c rfl pk_n)) rfl ml_X7_frictionAt wm_X7_133 (q0 := 0) rfl rfl rfl ⟨Nat.le_of_ble_eq_true rfl, Nat.le_of_ble_eq_true rfl⟩ ⟨Nat.zero_le _, Nat.zero_le _⟩ hl.1 rfl (Nat.le_of_ble_eq_true rfl) dX7_tickOn_34 (fun H locs X => ?_)
  refine lv_istore (lv' := [(4, .int (f_X7_frictionAt (f_X7_followsPlan_a (upd n 2 ((n 2) + 1))) 3)), (3, .int (f_X7_frictionAt (f_X7_followsPlan_a (upd n 2 ((n 2) + 1))) 2)), (2, .int (f_X7_frictionAt (f_X7_followsPlan_a (upd n 2 ((n 2) + 1))) 1)), (1, .int (f_X7_frictionAt (f_X7_followsPlan_a (upd n 2 ((n 2) + 1))) 0)), (0, .ref o)]) hx hb dX7_tickOn_37 hl (by decide) rfl (fun ls hl => ?_)
  refine lv_aload_n hx hb dX7_tickOn_39 rfl (lv_at hl 4 rfl) ?_
  refine get_mo_0 C hK X 0 rfl fl_X7_7 dX7_tickOn_40 ?_
  refine lv_iconst (v := 1) hx hb dX7_tickOn_43 (by decide) ?_
  refine lv_dup2_11 hx hb dX7_tickOn_44 rfl rfl ?_
  refine s_ialN C hK X 1 1 rfl rfl (by decide) (by decide) dX7_tickOn_45 ?_
  refine lv_aload_n hx hb dX7_tickOn_46 rfl (lv_at hl 4 rfl) ?_
  refine get_mo_0 C hK X 0 rfl fl_X7_7 dX7_tickOn_47 ?_
  refine lv_iconst (v := 0) hx hb dX7_tickOn_50 (by decide) ?_
  refine s_ialN C hK X 1 0 rfl rfl (by decide) (by decide) dX7_tickOn_51 ?_
  refine lv_bipush (v := 100) hx hb dX7_tickOn_52 (by decide) ?_
  refine lv_idiv hx hb dX7_tickOn_54 (by decide) ?_
  refine lv_iadd hx hb dX7_tickOn_55 ?_
  refine s_iasN C hK X 1 1 rfl rfl (by decide) (by decide) dX7_tickOn_56 (fun H locs X => ?_)
  have X : Wd D A s.heap [(o, moE g hs a b c_), (a, arE ty 253 (v_X7_tickOn_1 n))] H locs := X
  refine lv_aload_n hx hb dX7_tickOn_57 rfl (lv_at hl 4 rfl) ?_
  refine get_mo_0 C hK X 0 rfl fl_X7_7 dX7_tickOn_58 ?_
  refine lv_iconst (v := 0) hx hb dX7_tickOn_61 (by decide) ?_
  refine lv_iconst (v := 0) hx hb dX7_tickOn_62 (by decide) ?_
  refine lv_aload_n hx hb dX7_tickOn_63 rfl (lv_at hl 4 rfl) ?_
  refine get_mo_0 C hK X 0 rfl fl_X7_7 dX7_tickOn_64 ?_
  refine lv_iconst (v := 0) hx hb dX7_tickOn_67 (by decide) ?_
  refine s_ialN C hK X 1 0 rfl rfl (by decide) (by decide) dX7_tickOn_68 ?_
  refine lv_iload_n hx hb dX7_tickOn_69 rfl (lv_at hl 3 rfl) ?_
  refine lv_iload_n hx hb dX7_tickOn_70 rfl (lv_at hl 2 rfl) ?_
  refine lv_iadd hx hb dX7_tickOn_71 ?_
  refine lv_iload_n hx hb dX7_tickOn_72 rfl (lv_at hl 1 rfl) ?_
  refine lv_iadd hx hb dX7_tickOn_73 ?_
  refine lv_iload hx hb dX7_tickOn_74 (lv_at hl 0 rfl) ?_
  refine lv_iadd hx hb dX7_tickOn_76 ?_
  refine lv_bipush (v := 40) hx hb dX7_tickOn_77 (by decide) ?_
  refine lv_idiv hx hb dX7_tickOn_79 (by decide) ?_
  refine lv_isub hx hb dX7_tickOn_80 ?_
  refine s_cS0i C hK hA X (c_X7_greater l D ty 0 (((v_X7_tickOn_1 n) 0) - (((((f_X7_frictionAt (f_X7_followsPlan_a (upd n 2 ((n 2) + 1))) 0) + (f_X7_frictionAt (f_X7_followsPlan_a (upd n 2 ((n 2) + 1))) 1)) + (f_X7_frictionAt (f_X7_followsPlan_a (upd n 2 ((n 2) + 1))) 2)) + (f_X7_frictionAt (f_X7_followsPlan_a (upd n 2 ((n 2) + 1))) 3)) / 40))) [] pk_n rfl sl_X7_greater wm_X7_70 ⟨Nat.le_of_ble_eq_true rfl, Nat.le_of_ble_eq_true rfl⟩ ⟨Nat.zero_le _, Nat.zero_le _⟩ hl.1 rfl (Nat.le_of_ble_eq_true rfl) dX7_tickOn_81 (fun H locs X => ?_)
  refine s_iasN C hK X 1 0 rfl rfl (by decide) (by decide) dX7_tickOn_84 (fun H locs X => ?_)
  have X : Wd D A s.heap [(o, moE g hs a b c_), (a, arE ty 253 (v_X7_tickOn_3 n))] H locs := X
  refine lv_iconst (v := 0) hx hb dX7_tickOn_85 (by decide) ?_
  refine lv_istore (lv' := [(5, .int 0), (4, .int (f_X7_frictionAt (f_X7_followsPlan_a (upd n 2 ((n 2) + 1))) 3)), (3, .int (f_X7_frictionAt (f_X7_followsPlan_a (upd n 2 ((n 2) + 1))) 2)), (2, .int (f_X7_frictionAt (f_X7_followsPlan_a (upd n 2 ((n 2) + 1))) 1)), (1, .int (f_X7_frictionAt (f_X7_followsPlan_a (upd n 2 ((n 2) + 1))) 0)), (0, .ref o)]) hx hb dX7_tickOn_86 hl (by decide) rfl (fun ls hl => ?_)
  refine lv_iload hx hb dX7_tickOn_88 (lv_at hl 0 rfl) ?_
  refine lv_iconst (v := 4) hx hb dX7_tickOn_90 (by decide) ?_
  refine lv_icmp_ge (tgt := 182) hx hb dX7_tickOn_91 (by decide) (fun c0 => absurd c0 (by decide)) (fun _ => ?_)
  refine lv_iload hx hb dX7_tickOn_94 (lv_at hl 0 rfl) ?_
  refine lv_if_ne (tgt := 103) hx hb dX7_tickOn_96 (by decide) (fun c0 => absurd (by decide) c0) (fun _ => ?_)
  refine lv_iload_n hx hb dX7_tickOn_99 rfl (lv_at hl 4 rfl) ?_
  refine lv_goto (tgt := 125) hx hb dX7_tickOn_100 (by decide) ?_
  refine lv_istore (lv' := [(6, .int (f_X7_frictionAt (f_X7_followsPlan_a (upd n 2 ((n 2) + 1))) 0)), (5, .int 0), (4, .int (f_X7_frictionAt (f_X7_followsPlan_a (upd n 2 ((n 2) + 1))) 3)), (3, .int (f_X7_frictionAt (f_X7_followsPlan_a (upd n 2 ((n 2) + 1))) 2)), (2, .int (f_X7_frictionAt (f_X7_followsPlan_a (upd n 2 ((n 2) + 1))) 1)), (1, .int (f_X7_frictionAt (f_X7_followsPlan_a (upd n 2 ((n 2) + 1))) 0)), (0, .ref o)]) hx hb dX7_tickOn_125 hl (by decide) rfl (fun ls hl => ?_)
  refine lv_aload_n hx hb dX7_tickOn_127 rfl (lv_at hl 6 rfl) ?_
  refine lv_iload hx hb dX7_tickOn_128 (lv_at hl 1 rfl) ?_
  refine lv_iconst (v := 0) hx hb dX7_tickOn_130 (by decide) ?_
  refine s_cV0i C hK hA X (c_X7_get l D ty o a b c_ g hs (v_X7_tickOn_3 n) 0 0 10 (by decide) (by decide)) [0, 1] (pk_c rfl (pk_c rfl pk_n)) rfl ml_X7_get wm_X7_45 (q0 := 0) rfl rfl rfl ⟨Nat.le_of_ble_eq_true rfl, Nat.le_of_ble_eq_true rfl⟩ ⟨Nat.zero_le _, Nat.zero_le _⟩ hl.1 rfl (Nat.le_of_ble_eq_true rfl) dX7_tickOn_131 (fun H locs X => ?_)
  refine lv_iconst (v := 2) hx hb dX7_tickOn_134 (by decide) ?_
  refine lv_iload hx hb dX7_tickOn_135 (lv_at hl 0 rfl) ?_
  refine lv_aload_n hx hb dX7_tickOn_137 rfl (lv_at hl 6 rfl) ?_
  refine lv_iload hx hb dX7_tickOn_138 (lv_at hl 1 rfl) ?_
  refine lv_iconst (v := 1) hx hb dX7_tickOn_140 (by decide) ?_
  refine s_cV0i C hK hA X (c_X7_get l D ty o a b c_ g hs (v_X7_tickOn_3 n) 0 1 11 (by decide) (by decide)) [0, 1] (pk_c rfl (pk_c rfl pk_n)) rfl ml_X7_get wm_X7_45 (q0 := 0) rfl rfl rfl ⟨Nat.le_of_ble_eq_true rfl, Nat.le_of_ble_eq_true rfl⟩ ⟨Nat.zero_le _, Nat.zero_le _⟩ hl.1 rfl (Nat.le_of_ble_eq_true rfl) dX7_tickOn_141 (fun H locs X => ?_)
  refine lv_isub hx hb dX7_tickOn_144 ?_
  refine lv_imul hx hb dX7_tickOn_145 ?_
  refine lv_iadd hx hb dX7_tickOn_146 ?_
  refine s_eqi (y := (v_X7_tickOn_5 n)) rfl ?_
  refine lv_istore (lv' := [(7, .int (v_X7_tickOn_5 n)), (6, .int (f_X7_frictionAt (f_X7_followsPlan_a (upd n 2 ((n 2) + 1))) 0)), (5, .int 0), (4, .int (f_X7_frictionAt (f_X7_followsPlan_a (upd n 2 ((n 2) + 1))) 3)), (3, .int (f_X7_frictionAt (f_X7_followsPlan_a (upd n 2 ((n 2) + 1))) 2)), (2, .int (f_X7_frictionAt (f_X7_followsPlan_a (upd n 2 ((n 2) + 1))) 1)), (1, .int (f_X7_frictionAt (f_X7_followsPlan_a (upd n 2 ((n 2) + 1))) 0)), (0, .ref o)]) hx hb dX7_tickOn_147 hl (by decide) rfl (fun ls hl => ?_)
  refine lv_aload_n hx hb dX7_tickOn_149 rfl (lv_at hl 7 rfl) ?_
  refine lv_iload hx hb dX7_tickOn_150 (lv_at hl 2 rfl) ?_
  refine lv_iconst (v := 0) hx hb dX7_tickOn_152 (by decide) ?_
  refine lv_iload hx hb dX7_tickOn_153 (lv_at hl 0 rfl) ?_
  have J173_7 : ∀ (x6 : Int32) (ls : Array Slot) (H : Heap) (locs : List Loc), x6 = (v_X7_tickOn_6 n) → lv_has ls 8 [(7, .int (v_X7_tickOn_5 n)), (6, .int (f_X7_frictionAt (f_X7_followsPlan_a (upd n 2 ((n 2) + 1))) 0)), (5, .int 0), (4, .int (f_X7_frictionAt (f_X7_followsPlan_a (upd n 2 ((n 2) + 1))) 3)), (3, .int (f_X7_frictionAt (f_X7_followsPlan_a (upd n 2 ((n 2) + 1))) 2)), (2, .int (f_X7_frictionAt (f_X7_followsPlan_a (upd n 2 ((n 2) + 1))) 1)), (1, .int (f_X7_frictionAt (f_X7_followsPlan_a (upd n 2 ((n 2) + 1))) 0)), (0, .ref o)] → Wd D A s.heap [(o, moE g hs a b c_), (a, arE ty 253 (v_X7_tickOn_3 n))] H locs → W p l e (rmD 8) s m args below meth c H locs 0 0 Q (F0 m 173 ls [.int x6, .int 0, .int 0, .ref o]) := by
    intro x6 ls H locs ex6 hl X
    replace ex6 := ex6.symm; subst ex6
    refine s_cVv (ws' := [(o, moE g hs a b c_), (a, arE ty 253 (f_X7_sets_a (v_X7_tickOn_3 n) (v_X7_tickOn_6 n) 10))]) C hK hA X (c_X7_sets l D ty o a b c_ g hs (v_X7_tickOn_3 n) 0 0 (v_X7_tickOn_6 n) 10 (by decide) (by decide)) [0, 1] (pk_c rfl (pk_c rfl pk_n)) rfl (pk_c rfl (pk_c rfl pk_n)) (em_t (em_t em_n)) rfl ml_X7_sets wm_X7_59 (q0 := 0) rfl rfl rfl ⟨Nat.le_of_ble_eq_true rfl, Nat.le_of_ble_eq_true rfl⟩ ⟨Nat.zero_le _, Nat.zero_le _⟩ hl.1 rfl (Nat.le_of_ble_eq_true rfl) dX7_tickOn_173 (fun H locs X => ?_)
    refine lv_iinc (v := 1) (lv' := [(5, .int 1), (7, .int (v_X7_tickOn_5 n)), (6, .int (f_X7_frictionAt (f_X7_followsPlan_a (upd n 2 ((n 2) + 1))) 0)), (4, .int (f_X7_frictionAt (f_X7_followsPlan_a (upd n 2 ((n 2) + 1))) 3)), (3, .int (f_X7_frictionAt (f_X7_followsPlan_a (upd n 2 ((n 2) + 1))) 2)), (2, .int (f_X7_frictionAt (f_X7_followsPlan_a (upd n 2 ((n 2) + 1))) 1)), (1, .int (f_X7_frictionAt (f_X7_followsPlan_a (upd n 2 ((n 2) + 1))) 0)), (0, .ref o)]) hx hb dX7_tickOn_176 hl (k := 2) rfl (by decide) (by decide) rfl (fun ls hl => ?_)
    refine lv_goto (tgt := 88) hx hb dX7_tickOn_179 (by decide) ?_
    refine lv_iload hx hb dX7_tickOn_88 (lv_at hl 0 rfl) ?_
    refine lv_iconst (v := 4) hx hb dX7_tickOn_90 (by decide) ?_
    refine lv_icmp_ge (tgt := 182) hx hb dX7_tickOn_91 (by decide) (fun c0 => absurd c0 (by decide)) (fun _ => ?_)
    refine lv_iload hx hb dX7_tickOn_94 (lv_at hl 0 rfl) ?_
    refine lv_if_ne (tgt := 103) hx hb dX7_tickOn_96 (by decide) (fun _ => ?_) (fun c0 => absurd c0 (by decide))
    refine lv_iload hx hb dX7_tickOn_103 (lv_at hl 0 rfl) ?_
    refine lv_iconst (v := 1) hx hb dX7_tickOn_105 (by decide) ?_
    refine lv_icmp_ne (tgt := 113) hx hb dX7_tickOn_106 (by decide) (fun c0 => absurd (by decide) c0) (fun _ => ?_)
    refine lv_iload_n hx hb dX7_tickOn_109 rfl (lv_at hl 5 rfl) ?_
    refine lv_goto (tgt := 125) hx hb dX7_tickOn_110 (by decide) ?_
    refine lv_istore (lv' := [(6, .int (f_X7_frictionAt (f_X7_followsPlan_a (upd n 2 ((n 2) + 1))) 1)), (5, .int 1), (7, .int (v_X7_tickOn_5 n)), (4, .int (f_X7_frictionAt (f_X7_followsPlan_a (upd n 2 ((n 2) + 1))) 3)), (3, .int (f_X7_frictionAt (f_X7_followsPlan_a (upd n 2 ((n 2) + 1))) 2)), (2, .int (f_X7_frictionAt (f_X7_followsPlan_a (upd n 2 ((n 2) + 1))) 1)), (1, .int (f_X7_frictionAt (f_X7_followsPlan_a (upd n 2 ((n 2) + 1))) 0)), (0, .ref o)]) hx hb dX7_tickOn_125 hl (by decide) rfl (fun ls hl => ?_)
    refine lv_aload_n hx hb dX7_tickOn_127 rfl (lv_at hl 7 rfl) ?_
    refine lv_iload hx hb dX7_tickOn_128 (lv_at hl 1 rfl) ?_
    refine lv_iconst (v := 0) hx hb dX7_tickOn_130 (by decide) ?_
    refine s_cV0i C hK hA X (c_X7_get l D ty o a b c_ g hs (f_X7_sets_a (v_X7_tickOn_3 n) (v_X7_tickOn_6 n) 10) 1 0 26 (by decide) (by decide)) [0, 1] (pk_c rfl (pk_c rfl pk_n)) rfl ml_X7_get wm_X7_45 (q0 := 0) rfl rfl rfl ⟨Nat.le_of_ble_eq_true rfl, Nat.le_of_ble_eq_true rfl⟩ ⟨Nat.zero_le _, Nat.zero_le _⟩ hl.1 rfl (Nat.le_of_ble_eq_true rfl) dX7_tickOn_131 (fun H locs X => ?_)
    refine lv_iconst (v := 2) hx hb dX7_tickOn_134 (by decide) ?_
    refine lv_iload hx hb dX7_tickOn_135 (lv_at hl 0 rfl) ?_
    refine lv_aload_n hx hb dX7_tickOn_137 rfl (lv_at hl 7 rfl) ?_
    refine lv_iload hx hb dX7_tickOn_138 (lv_at hl 1 rfl) ?_
    refine lv_iconst (v := 1) hx hb dX7_tickOn_140 (by decide) ?_
    refine s_cV0i C hK hA X (c_X7_get l D ty o a b c_ g hs (f_X7_sets_a (v_X7_tickOn_3 n) (v_X7_tickOn_6 n) 10) 1 1 27 (by decide) (by decide)) [0, 1] (pk_c rfl (pk_c rfl pk_n)) rfl ml_X7_get wm_X7_45 (q0 := 0) rfl rfl rfl ⟨Nat.le_of_ble_eq_true rfl, Nat.le_of_ble_eq_true rfl⟩ ⟨Nat.zero_le _, Nat.zero_le _⟩ hl.1 rfl (Nat.le_of_ble_eq_true rfl) dX7_tickOn_141 (fun H locs X => ?_)
    refine lv_isub hx hb dX7_tickOn_144 ?_
    refine lv_imul hx hb dX7_tickOn_145 ?_
    refine lv_iadd hx hb dX7_tickOn_146 ?_
    refine s_eqi (y := (v_X7_tickOn_8 n)) rfl ?_
    refine lv_istore (lv' := [(7, .int (v_X7_tickOn_8 n)), (6, .int (f_X7_frictionAt (f_X7_followsPlan_a (upd n 2 ((n 2) + 1))) 1)), (5, .int 1), (4, .int (f_X7_frictionAt (f_X7_followsPlan_a (upd n 2 ((n 2) + 1))) 3)), (3, .int (f_X7_frictionAt (f_X7_followsPlan_a (upd n 2 ((n 2) + 1))) 2)), (2, .int (f_X7_frictionAt (f_X7_followsPlan_a (upd n 2 ((n 2) + 1))) 1)), (1, .int (f_X7_frictionAt (f_X7_followsPlan_a (upd n 2 ((n 2) + 1))) 0)), (0, .ref o)]) hx hb dX7_tickOn_147 hl (by decide) rfl (fun ls hl => ?_)
    refine lv_aload_n hx hb dX7_tickOn_149 rfl (lv_at hl 7 rfl) ?_
    refine lv_iload hx hb dX7_tickOn_150 (lv_at hl 2 rfl) ?_
    refine lv_iconst (v := 0) hx hb dX7_tickOn_152 (by decide) ?_
    refine lv_iload hx hb dX7_tickOn_153 (lv_at hl 0 rfl) ?_
    have J173_10 : ∀ (x9 : Int32) (ls : Array Slot) (H : Heap) (locs : List Loc), x9 = (v_X7_tickOn_9 n) → lv_has ls 8 [(7, .int (v_X7_tickOn_8 n)), (6, .int (f_X7_frictionAt (f_X7_followsPlan_a (upd n 2 ((n 2) + 1))) 1)), (5, .int 1), (4, .int (f_X7_frictionAt (f_X7_followsPlan_a (upd n 2 ((n 2) + 1))) 3)), (3, .int (f_X7_frictionAt (f_X7_followsPlan_a (upd n 2 ((n 2) + 1))) 2)), (2, .int (f_X7_frictionAt (f_X7_followsPlan_a (upd n 2 ((n 2) + 1))) 1)), (1, .int (f_X7_frictionAt (f_X7_followsPlan_a (upd n 2 ((n 2) + 1))) 0)), (0, .ref o)] → Wd D A s.heap [(o, moE g hs a b c_), (a, arE ty 253 (f_X7_sets_a (v_X7_tickOn_3 n) (v_X7_tickOn_6 n) 10))] H locs → W p l e (rmD 8) s m args below meth c H locs 0 0 Q (F0 m 173 ls [.int x9, .int 0, .int 1, .ref o]) := by
      intro x9 ls H locs ex9 hl X
      replace ex9 := ex9.symm; subst ex9
      refine s_cVv (ws' := [(o, moE g hs a b c_), (a, arE ty 253 (f_X7_sets_a (f_X7_sets_a (v_X7_tickOn_3 n) (v_X7_tickOn_6 n) 10) (v_X7_tickOn_9 n) 26))]) C hK hA X (c_X7_sets l D ty o a b c_ g hs (f_X7_sets_a (v_X7_tickOn_3 n) (v_X7_tickOn_6 n) 10) 1 0 (v_X7_tickOn_9 n) 26 (by decide) (by decide)) [0, 1] (pk_c rfl (pk_c rfl pk_n)) rfl (pk_c rfl (pk_c rfl pk_n)) (em_t (em_t em_n)) rfl ml_X7_sets wm_X7_59 (q0 := 0) rfl rfl rfl ⟨Nat.le_of_ble_eq_true rfl, Nat.le_of_ble_eq_true rfl⟩ ⟨Nat.zero_le _, Nat.zero_le _⟩ hl.1 rfl (Nat.le_of_ble_eq_true rfl) dX7_tickOn_173 (fun H locs X => ?_)
      refine lv_iinc (v := 2) (lv' := [(5, .int 2), (7, .int (v_X7_tickOn_8 n)), (6, .int (f_X7_frictionAt (f_X7_followsPlan_a (upd n 2 ((n 2) + 1))) 1)), (4, .int (f_X7_frictionAt (f_X7_followsPlan_a (upd n 2 ((n 2) + 1))) 3)), (3, .int (f_X7_frictionAt (f_X7_followsPlan_a (upd n 2 ((n 2) + 1))) 2)), (2, .int (f_X7_frictionAt (f_X7_followsPlan_a (upd n 2 ((n 2) + 1))) 1)), (1, .int (f_X7_frictionAt (f_X7_followsPlan_a (upd n 2 ((n 2) + 1))) 0)), (0, .ref o)]) hx hb dX7_tickOn_176 hl (k := 2) rfl (by decide) (by decide) rfl (fun ls hl => ?_)
      refine lv_goto (tgt := 88) hx hb dX7_tickOn_179 (by decide) ?_
      refine lv_iload hx hb dX7_tickOn_88 (lv_at hl 0 rfl) ?_
      refine lv_iconst (v := 4) hx hb dX7_tickOn_90 (by decide) ?_
      refine lv_icmp_ge (tgt := 182) hx hb dX7_tickOn_91 (by decide) (fun c0 => absurd c0 (by decide)) (fun _ => ?_)
      refine lv_iload hx hb dX7_tickOn_94 (lv_at hl 0 rfl) ?_
      refine lv_if_ne (tgt := 103) hx hb dX7_tickOn_96 (by decide) (fun _ => ?_) (fun c0 => absurd c0 (by decide))
      refine lv_iload hx hb dX7_tickOn_103 (lv_at hl 0 rfl) ?_
      refine lv_iconst (v := 1) hx hb dX7_tickOn_105 (by decide) ?_
      refine lv_icmp_ne (tgt := 113) hx hb dX7_tickOn_106 (by decide) (fun _ => ?_) (fun c0 => absurd c0 (by decide))
      refine lv_iload hx hb dX7_tickOn_113 (lv_at hl 0 rfl) ?_
      refine lv_iconst (v := 2) hx hb dX7_tickOn_115 (by decide) ?_
      refine lv_icmp_ne (tgt := 123) hx hb dX7_tickOn_116 (by decide) (fun c0 => absurd (by decide) c0) (fun _ => ?_)
      refine lv_iload_n hx hb dX7_tickOn_119 rfl (lv_at hl 4 rfl) ?_
      refine lv_goto (tgt := 125) hx hb dX7_tickOn_120 (by decide) ?_
      refine lv_istore (lv' := [(6, .int (f_X7_frictionAt (f_X7_followsPlan_a (upd n 2 ((n 2) + 1))) 2)), (5, .int 2), (7, .int (v_X7_tickOn_8 n)), (4, .int (f_X7_frictionAt (f_X7_followsPlan_a (upd n 2 ((n 2) + 1))) 3)), (3, .int (f_X7_frictionAt (f_X7_followsPlan_a (upd n 2 ((n 2) + 1))) 2)), (2, .int (f_X7_frictionAt (f_X7_followsPlan_a (upd n 2 ((n 2) + 1))) 1)), (1, .int (f_X7_frictionAt (f_X7_followsPlan_a (upd n 2 ((n 2) + 1))) 0)), (0, .ref o)]) hx hb dX7_tickOn_125 hl (by decide) rfl (fun ls hl => ?_)
      refine lv_aload_n hx hb dX7_tickOn_127 rfl (lv_at hl 7 rfl) ?_
      refine lv_iload hx hb dX7_tickOn_128 (lv_at hl 1 rfl) ?_
      refine lv_iconst (v := 0) hx hb dX7_tickOn_130 (by decide) ?_
      refine s_cV0i C hK hA X (c_X7_get l D ty o a b c_ g hs (f_X7_sets_a (f_X7_sets_a (v_X7_tickOn_3 n) (v_X7_tickOn_6 n) 10) (v_X7_tickOn_9 n) 26) 2 0 42 (by decide) (by decide)) [0, 1] (pk_c rfl (pk_c rfl pk_n)) rfl ml_X7_get wm_X7_45 (q0 := 0) rfl rfl rfl ⟨Nat.le_of_ble_eq_true rfl, Nat.le_of_ble_eq_true rfl⟩ ⟨Nat.zero_le _, Nat.zero_le _⟩ hl.1 rfl (Nat.le_of_ble_eq_true rfl) dX7_tickOn_131 (fun H locs X => ?_)
      refine lv_iconst (v := 2) hx hb dX7_tickOn_134 (by decide) ?_
      refine lv_iload hx hb dX7_tickOn_135 (lv_at hl 0 rfl) ?_
      refine lv_aload_n hx hb dX7_tickOn_137 rfl (lv_at hl 7 rfl) ?_
      refine lv_iload hx hb dX7_tickOn_138 (lv_at hl 1 rfl) ?_
      refine lv_iconst (v := 1) hx hb dX7_tickOn_140 (by decide) ?_
      refine s_cV0i C hK hA X (c_X7_get l D ty o a b c_ g hs (f_X7_sets_a (f_X7_sets_a (v_X7_tickOn_3 n) (v_X7_tickOn_6 n) 10) (v_X7_tickOn_9 n) 26) 2 1 43 (by decide) (by decide)) [0, 1] (pk_c rfl (pk_c rfl pk_n)) rfl ml_X7_get wm_X7_45 (q0 := 0) rfl rfl rfl ⟨Nat.le_of_ble_eq_true rfl, Nat.le_of_ble_eq_true rfl⟩ ⟨Nat.zero_le _, Nat.zero_le _⟩ hl.1 rfl (Nat.le_of_ble_eq_true rfl) dX7_tickOn_141 (fun H locs X => ?_)
      refine lv_isub hx hb dX7_tickOn_144 ?_
      refine lv_imul hx hb dX7_tickOn_145 ?_
      refine lv_iadd hx hb dX7_tickOn_146 ?_
      refine s_eqi (y := (v_X7_tickOn_11 n)) rfl ?_
      refine lv_istore (lv' := [(7, .int (v_X7_tickOn_11 n)), (6, .int (f_X7_frictionAt (f_X7_followsPlan_a (upd n 2 ((n 2) + 1))) 2)), (5, .int 2), (4, .int (f_X7_frictionAt (f_X7_followsPlan_a (upd n 2 ((n 2) + 1))) 3)), (3, .int (f_X7_frictionAt (f_X7_followsPlan_a (upd n 2 ((n 2) + 1))) 2)), (2, .int (f_X7_frictionAt (f_X7_followsPlan_a (upd n 2 ((n 2) + 1))) 1)), (1, .int (f_X7_frictionAt (f_X7_followsPlan_a (upd n 2 ((n 2) + 1))) 0)), (0, .ref o)]) hx hb dX7_tickOn_147 hl (by decide) rfl (fun ls hl => ?_)
      refine lv_aload_n hx hb dX7_tickOn_149 rfl (lv_at hl 7 rfl) ?_
      refine lv_iload hx hb dX7_tickOn_150 (lv_at hl 2 rfl) ?_
      refine lv_iconst (v := 0) hx hb dX7_tickOn_152 (by decide) ?_
      refine lv_iload hx hb dX7_tickOn_153 (lv_at hl 0 rfl) ?_
      have J173_13 : ∀ (x12 : Int32) (ls : Array Slot) (H : Heap) (locs : List Loc), x12 = (v_X7_tickOn_12 n) → lv_has ls 8 [(7, .int (v_X7_tickOn_11 n)), (6, .int (f_X7_frictionAt (f_X7_followsPlan_a (upd n 2 ((n 2) + 1))) 2)), (5, .int 2), (4, .int (f_X7_frictionAt (f_X7_followsPlan_a (upd n 2 ((n 2) + 1))) 3)), (3, .int (f_X7_frictionAt (f_X7_followsPlan_a (upd n 2 ((n 2) + 1))) 2)), (2, .int (f_X7_frictionAt (f_X7_followsPlan_a (upd n 2 ((n 2) + 1))) 1)), (1, .int (f_X7_frictionAt (f_X7_followsPlan_a (upd n 2 ((n 2) + 1))) 0)), (0, .ref o)] → Wd D A s.heap [(o, moE g hs a b c_), (a, arE ty 253 (f_X7_sets_a (f_X7_sets_a (v_X7_tickOn_3 n) (v_X7_tickOn_6 n) 10) (v_X7_tickOn_9 n) 26))] H locs → W p l e (rmD 8) s m args below meth c H locs 0 0 Q (F0 m 173 ls [.int x12, .int 0, .int 2, .ref o]) := by
        intro x12 ls H locs ex12 hl X
        replace ex12 := ex12.symm; subst ex12
        refine s_cVv (ws' := [(o, moE g hs a b c_), (a, arE ty 253 (v_X7_tickOn_14 n))]) C hK hA X (c_X7_sets l D ty o a b c_ g hs (f_X7_sets_a (f_X7_sets_a (v_X7_tickOn_3 n) (v_X7_tickOn_6 n) 10) (v_X7_tickOn_9 n) 26) 2 0 (v_X7_tickOn_12 n) 42 (by decide) (by decide)) [0, 1] (pk_c rfl (pk_c rfl pk_n)) rfl (pk_c rfl (pk_c rfl pk_n)) (em_t (em_t em_n)) rfl ml_X7_sets wm_X7_59 (q0 := 0) rfl rfl rfl ⟨Nat.le_of_ble_eq_true rfl, Nat.le_of_ble_eq_true rfl⟩ ⟨Nat.zero_le _, Nat.zero_le _⟩ hl.1 rfl (Nat.le_of_ble_eq_true rfl) dX7_tickOn_173 (fun H locs X => ?_)
        refine lv_iinc (v := 3) (lv' := [(5, .int 3), (7, .int (v_X7_tickOn_11 n)), (6, .int (f_X7_frictionAt (f_X7_followsPlan_a (upd n 2 ((n 2) + 1))) 2)), (4, .int (f_X7_frictionAt (f_X7_followsPlan_a (upd n 2 ((n 2) + 1))) 3)), (3, .int (f_X7_frictionAt (f_X7_followsPlan_a (upd n 2 ((n 2) + 1))) 2)), (2, .int (f_X7_frictionAt (f_X7_followsPlan_a (upd n 2 ((n 2) + 1))) 1)), (1, .int (f_X7_frictionAt (f_X7_followsPlan_a (upd n 2 ((n 2) + 1))) 0)), (0, .ref o)]) hx hb dX7_tickOn_176 hl (k := 2) rfl (by decide) (by decide) rfl (fun ls hl => ?_)
        refine lv_goto (tgt := 88) hx hb dX7_tickOn_179 (by decide) ?_
        refine lv_iload hx hb dX7_tickOn_88 (lv_at hl 0 rfl) ?_
        refine lv_iconst (v := 4) hx hb dX7_tickOn_90 (by decide) ?_
        refine lv_icmp_ge (tgt := 182) hx hb dX7_tickOn_91 (by decide) (fun c0 => absurd c0 (by decide)) (fun _ => ?_)
        refine lv_iload hx hb dX7_tickOn_94 (lv_at hl 0 rfl) ?_
        refine lv_if_ne (tgt := 103) hx hb dX7_tickOn_96 (by decide) (fun _ => ?_) (fun c0 => absurd c0 (by decide))
        refine lv_iload hx hb dX7_tickOn_103 (lv_at hl 0 rfl) ?_
        refine lv_iconst (v := 1) hx hb dX7_tickOn_105 (by decide) ?_
        refine lv_icmp_ne (tgt := 113) hx hb dX7_tickOn_106 (by decide) (fun _ => ?_) (fun c0 => absurd c0 (by decide))
        refine lv_iload hx hb dX7_tickOn_113 (lv_at hl 0 rfl) ?_
        refine lv_iconst (v := 2) hx hb dX7_tickOn_115 (by decide) ?_
        refine lv_icmp_ne (tgt := 123) hx hb dX7_tickOn_116 (by decide) (fun _ => ?_) (fun c0 => absurd c0 (by decide))
        refine lv_iload hx hb dX7_tickOn_123 (lv_at hl 3 rfl) ?_
        refine lv_istore (lv' := [(6, .int (f_X7_frictionAt (f_X7_followsPlan_a (upd n 2 ((n 2) + 1))) 3)), (5, .int 3), (7, .int (v_X7_tickOn_11 n)), (4, .int (f_X7_frictionAt (f_X7_followsPlan_a (upd n 2 ((n 2) + 1))) 3)), (3, .int (f_X7_frictionAt (f_X7_followsPlan_a (upd n 2 ((n 2) + 1))) 2)), (2, .int (f_X7_frictionAt (f_X7_followsPlan_a (upd n 2 ((n 2) + 1))) 1)), (1, .int (f_X7_frictionAt (f_X7_followsPlan_a (upd n 2 ((n 2) + 1))) 0)), (0, .ref o)]) hx hb dX7_tickOn_125 hl (by decide) rfl (fun ls hl => ?_)
        refine lv_aload_n hx hb dX7_tickOn_127 rfl (lv_at hl 7 rfl) ?_
        refine lv_iload hx hb dX7_tickOn_128 (lv_at hl 1 rfl) ?_
        refine lv_iconst (v := 0) hx hb dX7_tickOn_130 (by decide) ?_
        refine s_cV0i C hK hA X (c_X7_get l D ty o a b c_ g hs (v_X7_tickOn_14 n) 3 0 58 (by decide) (by decide)) [0, 1] (pk_c rfl (pk_c rfl pk_n)) rfl ml_X7_get wm_X7_45 (q0 := 0) rfl rfl rfl ⟨Nat.le_of_ble_eq_true rfl, Nat.le_of_ble_eq_true rfl⟩ ⟨Nat.zero_le _, Nat.zero_le _⟩ hl.1 rfl (Nat.le_of_ble_eq_true rfl) dX7_tickOn_131 (fun H locs X => ?_)
        refine lv_iconst (v := 2) hx hb dX7_tickOn_134 (by decide) ?_
        refine lv_iload hx hb dX7_tickOn_135 (lv_at hl 0 rfl) ?_
        refine lv_aload_n hx hb dX7_tickOn_137 rfl (lv_at hl 7 rfl) ?_
        refine lv_iload hx hb dX7_tickOn_138 (lv_at hl 1 rfl) ?_
        refine lv_iconst (v := 1) hx hb dX7_tickOn_140 (by decide) ?_
        refine s_cV0i C hK hA X (c_X7_get l D ty o a b c_ g hs (v_X7_tickOn_14 n) 3 1 59 (by decide) (by decide)) [0, 1] (pk_c rfl (pk_c rfl pk_n)) rfl ml_X7_get wm_X7_45 (q0 := 0) rfl rfl rfl ⟨Nat.le_of_ble_eq_true rfl, Nat.le_of_ble_eq_true rfl⟩ ⟨Nat.zero_le _, Nat.zero_le _⟩ hl.1 rfl (Nat.le_of_ble_eq_true rfl) dX7_tickOn_141 (fun H locs X => ?_)
        refine lv_isub hx hb dX7_tickOn_144 ?_
        refine lv_imul hx hb dX7_tickOn_145 ?_
        refine lv_iadd hx hb dX7_tickOn_146 ?_
        refine s_eqi (y := (v_X7_tickOn_16 n)) rfl ?_
        refine lv_istore (lv' := [(7, .int (v_X7_tickOn_16 n)), (6, .int (f_X7_frictionAt (f_X7_followsPlan_a (upd n 2 ((n 2) + 1))) 3)), (5, .int 3), (4, .int (f_X7_frictionAt (f_X7_followsPlan_a (upd n 2 ((n 2) + 1))) 3)), (3, .int (f_X7_frictionAt (f_X7_followsPlan_a (upd n 2 ((n 2) + 1))) 2)), (2, .int (f_X7_frictionAt (f_X7_followsPlan_a (upd n 2 ((n 2) + 1))) 1)), (1, .int (f_X7_frictionAt (f_X7_followsPlan_a (upd n 2 ((n 2) + 1))) 0)), (0, .ref o)]) hx hb dX7_tickOn_147 hl (by decide) rfl (fun ls hl => ?_)
        refine lv_aload_n hx hb dX7_tickOn_149 rfl (lv_at hl 7 rfl) ?_
        refine lv_iload hx hb dX7_tickOn_150 (lv_at hl 2 rfl) ?_
        refine lv_iconst (v := 0) hx hb dX7_tickOn_152 (by decide) ?_
        refine lv_iload hx hb dX7_tickOn_153 (lv_at hl 0 rfl) ?_
        have J173_18 : ∀ (x17 : Int32) (ls : Array Slot) (H : Heap) (locs : List Loc), x17 = (v_X7_tickOn_17 n) → lv_has ls 8 [(7, .int (v_X7_tickOn_16 n)), (6, .int (f_X7_frictionAt (f_X7_followsPlan_a (upd n 2 ((n 2) + 1))) 3)), (5, .int 3), (4, .int (f_X7_frictionAt (f_X7_followsPlan_a (upd n 2 ((n 2) + 1))) 3)), (3, .int (f_X7_frictionAt (f_X7_followsPlan_a (upd n 2 ((n 2) + 1))) 2)), (2, .int (f_X7_frictionAt (f_X7_followsPlan_a (upd n 2 ((n 2) + 1))) 1)), (1, .int (f_X7_frictionAt (f_X7_followsPlan_a (upd n 2 ((n 2) + 1))) 0)), (0, .ref o)] → Wd D A s.heap [(o, moE g hs a b c_), (a, arE ty 253 (v_X7_tickOn_14 n))] H locs → W p l e (rmD 8) s m args below meth c H locs 0 0 Q (F0 m 173 ls [.int x17, .int 0, .int 3, .ref o]) := by
          intro x17 ls H locs ex17 hl X
          replace ex17 := ex17.symm; subst ex17
          refine s_cVv (ws' := [(o, moE g hs a b c_), (a, arE ty 253 (f_X7_sets_a (v_X7_tickOn_14 n) (v_X7_tickOn_17 n) 58))]) C hK hA X (c_X7_sets l D ty o a b c_ g hs (v_X7_tickOn_14 n) 3 0 (v_X7_tickOn_17 n) 58 (by decide) (by decide)) [0, 1] (pk_c rfl (pk_c rfl pk_n)) rfl (pk_c rfl (pk_c rfl pk_n)) (em_t (em_t em_n)) rfl ml_X7_sets wm_X7_59 (q0 := 0) rfl rfl rfl ⟨Nat.le_of_ble_eq_true rfl, Nat.le_of_ble_eq_true rfl⟩ ⟨Nat.zero_le _, Nat.zero_le _⟩ hl.1 rfl (Nat.le_of_ble_eq_true rfl) dX7_tickOn_173 (fun H locs X => ?_)
          refine lv_iinc (v := 4) (lv' := [(5, .int 4), (7, .int (v_X7_tickOn_16 n)), (6, .int (f_X7_frictionAt (f_X7_followsPlan_a (upd n 2 ((n 2) + 1))) 3)), (4, .int (f_X7_frictionAt (f_X7_followsPlan_a (upd n 2 ((n 2) + 1))) 3)), (3, .int (f_X7_frictionAt (f_X7_followsPlan_a (upd n 2 ((n 2) + 1))) 2)), (2, .int (f_X7_frictionAt (f_X7_followsPlan_a (upd n 2 ((n 2) + 1))) 1)), (1, .int (f_X7_frictionAt (f_X7_followsPlan_a (upd n 2 ((n 2) + 1))) 0)), (0, .ref o)]) hx hb dX7_tickOn_176 hl (k := 2) rfl (by decide) (by decide) rfl (fun ls hl => ?_)
          refine lv_goto (tgt := 88) hx hb dX7_tickOn_179 (by decide) ?_
          refine lv_iload hx hb dX7_tickOn_88 (lv_at hl 0 rfl) ?_
          refine lv_iconst (v := 4) hx hb dX7_tickOn_90 (by decide) ?_
          refine lv_icmp_ge (tgt := 182) hx hb dX7_tickOn_91 (by decide) (fun _ => ?_) (fun c0 => absurd (by decide) c0)
          refine lv_aload_n hx hb dX7_tickOn_182 rfl (lv_at hl 7 rfl) ?_
          refine s_cVv (ws' := [(o, moE g hs a b c_), (a, arE ty 253 (f_X7_dropsSegments_a (f_X7_sets_a (v_X7_tickOn_14 n) (v_X7_tickOn_17 n) 58)))]) C hK hA X (c_X7_dropsSegments l D ty o a b c_ g hs (f_X7_sets_a (v_X7_tickOn_14 n) (v_X7_tickOn_17 n) 58) (MOK_w (j := 3) (k := 0) (by omega) (by decide) (okm_X7_tickOn_15 n hM))) [0, 1] (pk_c rfl (pk_c rfl pk_n)) rfl (pk_c rfl (pk_c rfl pk_n)) (em_t (em_t em_n)) rfl ml_X7_dropsSegments wm_X7_136 (q0 := 0) rfl rfl rfl ⟨Nat.le_of_ble_eq_true rfl, Nat.le_of_ble_eq_true rfl⟩ ⟨Nat.zero_le _, Nat.zero_le _⟩ hl.1 rfl (Nat.le_of_ble_eq_true rfl) dX7_tickOn_183 (fun H locs X => ?_)
          refine lv_aload_n hx hb dX7_tickOn_186 rfl (lv_at hl 7 rfl) ?_
          refine s_cVv (ws' := [(o, moE g hs a b c_), (a, arE ty 253 (v_X7_tickOn_19 n))]) C hK hA X (c_X7_controls l D ty o a b c_ g hs (f_X7_dropsSegments_a (f_X7_sets_a (v_X7_tickOn_14 n) (v_X7_tickOn_17 n) 58)) (ok_X7_dropsSegments_a (f_X7_sets_a (v_X7_tickOn_14 n) (v_X7_tickOn_17 n) 58) (MOK_w (j := 3) (k := 0) (by omega) (by decide) (okm_X7_tickOn_15 n hM)))) [0, 1] (pk_c rfl (pk_c rfl pk_n)) rfl (pk_c rfl (pk_c rfl pk_n)) (em_t (em_t em_n)) rfl ml_X7_controls wm_X7_139 (q0 := 0) rfl rfl rfl ⟨Nat.le_of_ble_eq_true rfl, Nat.le_of_ble_eq_true rfl⟩ ⟨Nat.zero_le _, Nat.zero_le _⟩ hl.1 rfl (Nat.le_of_ble_eq_true rfl) dX7_tickOn_187 (fun H locs X => ?_)
          refine lv_iconst (v := 0) hx hb dX7_tickOn_190 (by decide) ?_
          refine lv_istore (lv' := [(5, .int 0), (7, .int (v_X7_tickOn_16 n)), (6, .int (f_X7_frictionAt (f_X7_followsPlan_a (upd n 2 ((n 2) + 1))) 3)), (4, .int (f_X7_frictionAt (f_X7_followsPlan_a (upd n 2 ((n 2) + 1))) 3)), (3, .int (f_X7_frictionAt (f_X7_followsPlan_a (upd n 2 ((n 2) + 1))) 2)), (2, .int (f_X7_frictionAt (f_X7_followsPlan_a (upd n 2 ((n 2) + 1))) 1)), (1, .int (f_X7_frictionAt (f_X7_followsPlan_a (upd n 2 ((n 2) + 1))) 0)), (0, .ref o)]) hx hb dX7_tickOn_191 hl (by decide) rfl (fun ls hl => ?_)
          refine lv_iload hx hb dX7_tickOn_193 (lv_at hl 0 rfl) ?_
          refine lv_iconst (v := 4) hx hb dX7_tickOn_195 (by decide) ?_
          refine lv_icmp_ge (tgt := 249) hx hb dX7_tickOn_196 (by decide) (fun c0 => absurd c0 (by decide)) (fun _ => ?_)
          refine lv_aload_n hx hb dX7_tickOn_199 rfl (lv_at hl 7 rfl) ?_
          refine lv_iload hx hb dX7_tickOn_200 (lv_at hl 0 rfl) ?_
          refine lv_bipush (v := 6) hx hb dX7_tickOn_202 (by decide) ?_
          refine lv_aload_n hx hb dX7_tickOn_204 rfl (lv_at hl 7 rfl) ?_
          refine lv_iload hx hb dX7_tickOn_205 (lv_at hl 0 rfl) ?_
          refine lv_bipush (v := 6) hx hb dX7_tickOn_207 (by decide) ?_
          refine s_cV0i C hK hA X (c_X7_get l D ty o a b c_ g hs (v_X7_tickOn_19 n) 0 6 16 (by decide) (by decide)) [0, 1] (pk_c rfl (pk_c rfl pk_n)) rfl ml_X7_get wm_X7_45 (q0 := 0) rfl rfl rfl ⟨Nat.le_of_ble_eq_true rfl, Nat.le_of_ble_eq_true rfl⟩ ⟨Nat.zero_le _, Nat.zero_le _⟩ hl.1 rfl (Nat.le_of_ble_eq_true rfl) dX7_tickOn_209 (fun H locs X => ?_)
          refine lv_aload_n hx hb dX7_tickOn_212 rfl (lv_at hl 7 rfl) ?_
          refine lv_iload hx hb dX7_tickOn_213 (lv_at hl 0 rfl) ?_
          refine lv_iconst (v := 0) hx hb dX7_tickOn_215 (by decide) ?_
          refine s_cV0i C hK hA X (c_X7_get l D ty o a b c_ g hs (v_X7_tickOn_19 n) 0 0 10 (by decide) (by decide)) [0, 1] (pk_c rfl (pk_c rfl pk_n)) rfl ml_X7_get wm_X7_45 (q0 := 0) rfl rfl rfl ⟨Nat.le_of_ble_eq_true rfl, Nat.le_of_ble_eq_true rfl⟩ ⟨Nat.zero_le _, Nat.zero_le _⟩ hl.1 rfl (Nat.le_of_ble_eq_true rfl) dX7_tickOn_216 (fun H locs X => ?_)
          have J239_22 : ∀ (x21 : Int32) (ls : Array Slot) (H : Heap) (locs : List Loc), x21 = (v_X7_tickOn_21 n) → lv_has ls 8 [(5, .int 0), (7, .int (v_X7_tickOn_16 n)), (6, .int (f_X7_frictionAt (f_X7_followsPlan_a (upd n 2 ((n 2) + 1))) 3)), (4, .int (f_X7_frictionAt (f_X7_followsPlan_a (upd n 2 ((n 2) + 1))) 3)), (3, .int (f_X7_frictionAt (f_X7_followsPlan_a (upd n 2 ((n 2) + 1))) 2)), (2, .int (f_X7_frictionAt (f_X7_followsPlan_a (upd n 2 ((n 2) + 1))) 1)), (1, .int (f_X7_frictionAt (f_X7_followsPlan_a (upd n 2 ((n 2) + 1))) 0)), (0, .ref o)] → Wd D A s.heap [(o, moE g hs a b c_), (a, arE ty 253 (v_X7_tickOn_19 n))] H locs → W p l e (rmD 8) s m args below meth c H locs 0 0 Q (F0 m 239 ls [.int x21, .int ((v_X7_tickOn_19 n) 16), .int 6, .int 0, .ref o]) := by
            intro x21 ls H locs ex21 hl X
            replace ex21 := ex21.symm; subst ex21
            refine lv_iadd hx hb dX7_tickOn_239 ?_
            refine s_cVv (ws' := [(o, moE g hs a b c_), (a, arE ty 253 (f_X7_sets_a (v_X7_tickOn_19 n) (((v_X7_tickOn_19 n) 16) + (v_X7_tickOn_21 n)) 16))]) C hK hA X (c_X7_sets l D ty o a b c_ g hs (v_X7_tickOn_19 n) 0 6 (((v_X7_tickOn_19 n) 16) + (v_X7_tickOn_21 n)) 16 (by decide) (by decide)) [0, 1] (pk_c rfl (pk_c rfl pk_n)) rfl (pk_c rfl (pk_c rfl pk_n)) (em_t (em_t em_n)) rfl ml_X7_sets wm_X7_59 (q0 := 0) rfl rfl rfl ⟨Nat.le_of_ble_eq_true rfl, Nat.le_of_ble_eq_true rfl⟩ ⟨Nat.zero_le _, Nat.zero_le _⟩ hl.1 rfl (Nat.le_of_ble_eq_true rfl) dX7_tickOn_240 (fun H locs X => ?_)
            refine lv_iinc (v := 1) (lv' := [(5, .int 1), (7, .int (v_X7_tickOn_16 n)), (6, .int (f_X7_frictionAt (f_X7_followsPlan_a (upd n 2 ((n 2) + 1))) 3)), (4, .int (f_X7_frictionAt (f_X7_followsPlan_a (upd n 2 ((n 2) + 1))) 3)), (3, .int (f_X7_frictionAt (f_X7_followsPlan_a (upd n 2 ((n 2) + 1))) 2)), (2, .int (f_X7_frictionAt (f_X7_followsPlan_a (upd n 2 ((n 2) + 1))) 1)), (1, .int (f_X7_frictionAt (f_X7_followsPlan_a (upd n 2 ((n 2) + 1))) 0)), (0, .ref o)]) hx hb dX7_tickOn_243 hl (k := 0) rfl (by decide) (by decide) rfl (fun ls hl => ?_)
            refine lv_goto (tgt := 193) hx hb dX7_tickOn_246 (by decide) ?_
            refine lv_iload hx hb dX7_tickOn_193 (lv_at hl 0 rfl) ?_
            refine lv_iconst (v := 4) hx hb dX7_tickOn_195 (by decide) ?_
            refine lv_icmp_ge (tgt := 249) hx hb dX7_tickOn_196 (by decide) (fun c0 => absurd c0 (by decide)) (fun _ => ?_)
            refine lv_aload_n hx hb dX7_tickOn_199 rfl (lv_at hl 7 rfl) ?_
            refine lv_iload hx hb dX7_tickOn_200 (lv_at hl 0 rfl) ?_
            refine lv_bipush (v := 6) hx hb dX7_tickOn_202 (by decide) ?_
            refine lv_aload_n hx hb dX7_tickOn_204 rfl (lv_at hl 7 rfl) ?_
            refine lv_iload hx hb dX7_tickOn_205 (lv_at hl 0 rfl) ?_
            refine lv_bipush (v := 6) hx hb dX7_tickOn_207 (by decide) ?_
            refine s_cV0i C hK hA X (c_X7_get l D ty o a b c_ g hs (f_X7_sets_a (v_X7_tickOn_19 n) (((v_X7_tickOn_19 n) 16) + (v_X7_tickOn_21 n)) 16) 1 6 32 (by decide) (by decide)) [0, 1] (pk_c rfl (pk_c rfl pk_n)) rfl ml_X7_get wm_X7_45 (q0 := 0) rfl rfl rfl ⟨Nat.le_of_ble_eq_true rfl, Nat.le_of_ble_eq_true rfl⟩ ⟨Nat.zero_le _, Nat.zero_le _⟩ hl.1 rfl (Nat.le_of_ble_eq_true rfl) dX7_tickOn_209 (fun H locs X => ?_)
            refine lv_aload_n hx hb dX7_tickOn_212 rfl (lv_at hl 7 rfl) ?_
            refine lv_iload hx hb dX7_tickOn_213 (lv_at hl 0 rfl) ?_
            refine lv_iconst (v := 0) hx hb dX7_tickOn_215 (by decide) ?_
            refine s_cV0i C hK hA X (c_X7_get l D ty o a b c_ g hs (f_X7_sets_a (v_X7_tickOn_19 n) (((v_X7_tickOn_19 n) 16) + (v_X7_tickOn_21 n)) 16) 1 0 26 (by decide) (by decide)) [0, 1] (pk_c rfl (pk_c rfl pk_n)) rfl ml_X7_get wm_X7_45 (q0 := 0) rfl rfl rfl ⟨Nat.le_of_ble_eq_true rfl, Nat.le_of_ble_eq_true rfl⟩ ⟨Nat.zero_le _, Nat.zero_le _⟩ hl.1 rfl (Nat.le_of_ble_eq_true rfl) dX7_tickOn_216 (fun H locs X => ?_)
            have J239_24 : ∀ (x23 : Int32) (ls : Array Slot) (H : Heap) (locs : List Loc), x23 = (v_X7_tickOn_23 n) → lv_has ls 8 [(5, .int 1), (7, .int (v_X7_tickOn_16 n)), (6, .int (f_X7_frictionAt (f_X7_followsPlan_a (upd n 2 ((n 2) + 1))) 3)), (4, .int (f_X7_frictionAt (f_X7_followsPlan_a (upd n 2 ((n 2) + 1))) 3)), (3, .int (f_X7_frictionAt (f_X7_followsPlan_a (upd n 2 ((n 2) + 1))) 2)), (2, .int (f_X7_frictionAt (f_X7_followsPlan_a (upd n 2 ((n 2) + 1))) 1)), (1, .int (f_X7_frictionAt (f_X7_followsPlan_a (upd n 2 ((n 2) + 1))) 0)), (0, .ref o)] → Wd D A s.heap [(o, moE g hs a b c_), (a, arE ty 253 (f_X7_sets_a (v_X7_tickOn_19 n) (((v_X7_tickOn_19 n) 16) + (v_X7_tickOn_21 n)) 16))] H locs → W p l e (rmD 8) s m args below meth c H locs 0 0 Q (F0 m 239 ls [.int x23, .int ((f_X7_sets_a (v_X7_tickOn_19 n) (((v_X7_tickOn_19 n) 16) + (v_X7_tickOn_21 n)) 16) 32), .int 6, .int 1, .ref o]) := by
              intro x23 ls H locs ex23 hl X
              replace ex23 := ex23.symm; subst ex23
              refine lv_iadd hx hb dX7_tickOn_239 ?_
              refine s_cVv (ws' := [(o, moE g hs a b c_), (a, arE ty 253 (v_X7_tickOn_25 n))]) C hK hA X (c_X7_sets l D ty o a b c_ g hs (f_X7_sets_a (v_X7_tickOn_19 n) (((v_X7_tickOn_19 n) 16) + (v_X7_tickOn_21 n)) 16) 1 6 (((f_X7_sets_a (v_X7_tickOn_19 n) (((v_X7_tickOn_19 n) 16) + (v_X7_tickOn_21 n)) 16) 32) + (v_X7_tickOn_23 n)) 32 (by decide) (by decide)) [0, 1] (pk_c rfl (pk_c rfl pk_n)) rfl (pk_c rfl (pk_c rfl pk_n)) (em_t (em_t em_n)) rfl ml_X7_sets wm_X7_59 (q0 := 0) rfl rfl rfl ⟨Nat.le_of_ble_eq_true rfl, Nat.le_of_ble_eq_true rfl⟩ ⟨Nat.zero_le _, Nat.zero_le _⟩ hl.1 rfl (Nat.le_of_ble_eq_true rfl) dX7_tickOn_240 (fun H locs X => ?_)
              refine lv_iinc (v := 2) (lv' := [(5, .int 2), (7, .int (v_X7_tickOn_16 n)), (6, .int (f_X7_frictionAt (f_X7_followsPlan_a (upd n 2 ((n 2) + 1))) 3)), (4, .int (f_X7_frictionAt (f_X7_followsPlan_a (upd n 2 ((n 2) + 1))) 3)), (3, .int (f_X7_frictionAt (f_X7_followsPlan_a (upd n 2 ((n 2) + 1))) 2)), (2, .int (f_X7_frictionAt (f_X7_followsPlan_a (upd n 2 ((n 2) + 1))) 1)), (1, .int (f_X7_frictionAt (f_X7_followsPlan_a (upd n 2 ((n 2) + 1))) 0)), (0, .ref o)]) hx hb dX7_tickOn_243 hl (k := 0) rfl (by decide) (by decide) rfl (fun ls hl => ?_)
              refine lv_goto (tgt := 193) hx hb dX7_tickOn_246 (by decide) ?_
              refine lv_iload hx hb dX7_tickOn_193 (lv_at hl 0 rfl) ?_
              refine lv_iconst (v := 4) hx hb dX7_tickOn_195 (by decide) ?_
              refine lv_icmp_ge (tgt := 249) hx hb dX7_tickOn_196 (by decide) (fun c0 => absurd c0 (by decide)) (fun _ => ?_)
              refine lv_aload_n hx hb dX7_tickOn_199 rfl (lv_at hl 7 rfl) ?_
              refine lv_iload hx hb dX7_tickOn_200 (lv_at hl 0 rfl) ?_
              refine lv_bipush (v := 6) hx hb dX7_tickOn_202 (by decide) ?_
              refine lv_aload_n hx hb dX7_tickOn_204 rfl (lv_at hl 7 rfl) ?_
              refine lv_iload hx hb dX7_tickOn_205 (lv_at hl 0 rfl) ?_
              refine lv_bipush (v := 6) hx hb dX7_tickOn_207 (by decide) ?_
              refine s_cV0i C hK hA X (c_X7_get l D ty o a b c_ g hs (v_X7_tickOn_25 n) 2 6 48 (by decide) (by decide)) [0, 1] (pk_c rfl (pk_c rfl pk_n)) rfl ml_X7_get wm_X7_45 (q0 := 0) rfl rfl rfl ⟨Nat.le_of_ble_eq_true rfl, Nat.le_of_ble_eq_true rfl⟩ ⟨Nat.zero_le _, Nat.zero_le _⟩ hl.1 rfl (Nat.le_of_ble_eq_true rfl) dX7_tickOn_209 (fun H locs X => ?_)
              refine lv_aload_n hx hb dX7_tickOn_212 rfl (lv_at hl 7 rfl) ?_
              refine lv_iload hx hb dX7_tickOn_213 (lv_at hl 0 rfl) ?_
              refine lv_iconst (v := 0) hx hb dX7_tickOn_215 (by decide) ?_
              refine s_cV0i C hK hA X (c_X7_get l D ty o a b c_ g hs (v_X7_tickOn_25 n) 2 0 42 (by decide) (by decide)) [0, 1] (pk_c rfl (pk_c rfl pk_n)) rfl ml_X7_get wm_X7_45 (q0 := 0) rfl rfl rfl ⟨Nat.le_of_ble_eq_true rfl, Nat.le_of_ble_eq_true rfl⟩ ⟨Nat.zero_le _, Nat.zero_le _⟩ hl.1 rfl (Nat.le_of_ble_eq_true rfl) dX7_tickOn_216 (fun H locs X => ?_)
              have J239_28 : ∀ (x27 : Int32) (ls : Array Slot) (H : Heap) (locs : List Loc), x27 = (v_X7_tickOn_27 n) → lv_has ls 8 [(5, .int 2), (7, .int (v_X7_tickOn_16 n)), (6, .int (f_X7_frictionAt (f_X7_followsPlan_a (upd n 2 ((n 2) + 1))) 3)), (4, .int (f_X7_frictionAt (f_X7_followsPlan_a (upd n 2 ((n 2) + 1))) 3)), (3, .int (f_X7_frictionAt (f_X7_followsPlan_a (upd n 2 ((n 2) + 1))) 2)), (2, .int (f_X7_frictionAt (f_X7_followsPlan_a (upd n 2 ((n 2) + 1))) 1)), (1, .int (f_X7_frictionAt (f_X7_followsPlan_a (upd n 2 ((n 2) + 1))) 0)), (0, .ref o)] → Wd D A s.heap [(o, moE g hs a b c_), (a, arE ty 253 (v_X7_tickOn_25 n))] H locs → W p l e (rmD 8) s m args below meth c H locs 0 0 Q (F0 m 239 ls [.int x27, .int ((v_X7_tickOn_25 n) 48), .int 6, .int 2, .ref o]) := by
                intro x27 ls H locs ex27 hl X
                replace ex27 := ex27.symm; subst ex27
                refine lv_iadd hx hb dX7_tickOn_239 ?_
                refine s_cVv (ws' := [(o, moE g hs a b c_), (a, arE ty 253 (f_X7_sets_a (v_X7_tickOn_25 n) (((v_X7_tickOn_25 n) 48) + (v_X7_tickOn_27 n)) 48))]) C hK hA X (c_X7_sets l D ty o a b c_ g hs (v_X7_tickOn_25 n) 2 6 (((v_X7_tickOn_25 n) 48) + (v_X7_tickOn_27 n)) 48 (by decide) (by decide)) [0, 1] (pk_c rfl (pk_c rfl pk_n)) rfl (pk_c rfl (pk_c rfl pk_n)) (em_t (em_t em_n)) rfl ml_X7_sets wm_X7_59 (q0 := 0) rfl rfl rfl ⟨Nat.le_of_ble_eq_true rfl, Nat.le_of_ble_eq_true rfl⟩ ⟨Nat.zero_le _, Nat.zero_le _⟩ hl.1 rfl (Nat.le_of_ble_eq_true rfl) dX7_tickOn_240 (fun H locs X => ?_)
                refine lv_iinc (v := 3) (lv' := [(5, .int 3), (7, .int (v_X7_tickOn_16 n)), (6, .int (f_X7_frictionAt (f_X7_followsPlan_a (upd n 2 ((n 2) + 1))) 3)), (4, .int (f_X7_frictionAt (f_X7_followsPlan_a (upd n 2 ((n 2) + 1))) 3)), (3, .int (f_X7_frictionAt (f_X7_followsPlan_a (upd n 2 ((n 2) + 1))) 2)), (2, .int (f_X7_frictionAt (f_X7_followsPlan_a (upd n 2 ((n 2) + 1))) 1)), (1, .int (f_X7_frictionAt (f_X7_followsPlan_a (upd n 2 ((n 2) + 1))) 0)), (0, .ref o)]) hx hb dX7_tickOn_243 hl (k := 0) rfl (by decide) (by decide) rfl (fun ls hl => ?_)
                refine lv_goto (tgt := 193) hx hb dX7_tickOn_246 (by decide) ?_
                refine lv_iload hx hb dX7_tickOn_193 (lv_at hl 0 rfl) ?_
                refine lv_iconst (v := 4) hx hb dX7_tickOn_195 (by decide) ?_
                refine lv_icmp_ge (tgt := 249) hx hb dX7_tickOn_196 (by decide) (fun c0 => absurd c0 (by decide)) (fun _ => ?_)
                refine lv_aload_n hx hb dX7_tickOn_199 rfl (lv_at hl 7 rfl) ?_
                refine lv_iload hx hb dX7_tickOn_200 (lv_at hl 0 rfl) ?_
                refine lv_bipush (v := 6) hx hb dX7_tickOn_202 (by decide) ?_
                refine lv_aload_n hx hb dX7_tickOn_204 rfl (lv_at hl 7 rfl) ?_
                refine lv_iload hx hb dX7_tickOn_205 (lv_at hl 0 rfl) ?_
                refine lv_bipush (v := 6) hx hb dX7_tickOn_207 (by decide) ?_
                refine s_cV0i C hK hA X (c_X7_get l D ty o a b c_ g hs (f_X7_sets_a (v_X7_tickOn_25 n) (((v_X7_tickOn_25 n) 48) + (v_X7_tickOn_27 n)) 48) 3 6 64 (by decide) (by decide)) [0, 1] (pk_c rfl (pk_c rfl pk_n)) rfl ml_X7_get wm_X7_45 (q0 := 0) rfl rfl rfl ⟨Nat.le_of_ble_eq_true rfl, Nat.le_of_ble_eq_true rfl⟩ ⟨Nat.zero_le _, Nat.zero_le _⟩ hl.1 rfl (Nat.le_of_ble_eq_true rfl) dX7_tickOn_209 (fun H locs X => ?_)
                refine lv_aload_n hx hb dX7_tickOn_212 rfl (lv_at hl 7 rfl) ?_
                refine lv_iload hx hb dX7_tickOn_213 (lv_at hl 0 rfl) ?_
                refine lv_iconst (v := 0) hx hb dX7_tickOn_215 (by decide) ?_
                refine s_cV0i C hK hA X (c_X7_get l D ty o a b c_ g hs (f_X7_sets_a (v_X7_tickOn_25 n) (((v_X7_tickOn_25 n) 48) + (v_X7_tickOn_27 n)) 48) 3 0 58 (by decide) (by decide)) [0, 1] (pk_c rfl (pk_c rfl pk_n)) rfl ml_X7_get wm_X7_45 (q0 := 0) rfl rfl rfl ⟨Nat.le_of_ble_eq_true rfl, Nat.le_of_ble_eq_true rfl⟩ ⟨Nat.zero_le _, Nat.zero_le _⟩ hl.1 rfl (Nat.le_of_ble_eq_true rfl) dX7_tickOn_216 (fun H locs X => ?_)
                have J239_30 : ∀ (x29 : Int32) (ls : Array Slot) (H : Heap) (locs : List Loc), x29 = (v_X7_tickOn_29 n) → lv_has ls 8 [(5, .int 3), (7, .int (v_X7_tickOn_16 n)), (6, .int (f_X7_frictionAt (f_X7_followsPlan_a (upd n 2 ((n 2) + 1))) 3)), (4, .int (f_X7_frictionAt (f_X7_followsPlan_a (upd n 2 ((n 2) + 1))) 3)), (3, .int (f_X7_frictionAt (f_X7_followsPlan_a (upd n 2 ((n 2) + 1))) 2)), (2, .int (f_X7_frictionAt (f_X7_followsPlan_a (upd n 2 ((n 2) + 1))) 1)), (1, .int (f_X7_frictionAt (f_X7_followsPlan_a (upd n 2 ((n 2) + 1))) 0)), (0, .ref o)] → Wd D A s.heap [(o, moE g hs a b c_), (a, arE ty 253 (f_X7_sets_a (v_X7_tickOn_25 n) (((v_X7_tickOn_25 n) 48) + (v_X7_tickOn_27 n)) 48))] H locs → W p l e (rmD 8) s m args below meth c H locs 0 0 Q (F0 m 239 ls [.int x29, .int ((f_X7_sets_a (v_X7_tickOn_25 n) (((v_X7_tickOn_25 n) 48) + (v_X7_tickOn_27 n)) 48) 64), .int 6, .int 3, .ref o]) := by
                  intro x29 ls H locs ex29 hl X
                  replace ex29 := ex29.symm; subst ex29
                  refine lv_iadd hx hb dX7_tickOn_239 ?_
                  refine s_cVv (ws' := [(o, moE g hs a b c_), (a, arE ty 253 (v_X7_tickOn_31 n))]) C hK hA X (c_X7_sets l D ty o a b c_ g hs (f_X7_sets_a (v_X7_tickOn_25 n) (((v_X7_tickOn_25 n) 48) + (v_X7_tickOn_27 n)) 48) 3 6 (((f_X7_sets_a (v_X7_tickOn_25 n) (((v_X7_tickOn_25 n) 48) + (v_X7_tickOn_27 n)) 48) 64) + (v_X7_tickOn_29 n)) 64 (by decide) (by decide)) [0, 1] (pk_c rfl (pk_c rfl pk_n)) rfl (pk_c rfl (pk_c rfl pk_n)) (em_t (em_t em_n)) rfl ml_X7_sets wm_X7_59 (q0 := 0) rfl rfl rfl ⟨Nat.le_of_ble_eq_true rfl, Nat.le_of_ble_eq_true rfl⟩ ⟨Nat.zero_le _, Nat.zero_le _⟩ hl.1 rfl (Nat.le_of_ble_eq_true rfl) dX7_tickOn_240 (fun H locs X => ?_)
                  refine lv_iinc (v := 4) (lv' := [(5, .int 4), (7, .int (v_X7_tickOn_16 n)), (6, .int (f_X7_frictionAt (f_X7_followsPlan_a (upd n 2 ((n 2) + 1))) 3)), (4, .int (f_X7_frictionAt (f_X7_followsPlan_a (upd n 2 ((n 2) + 1))) 3)), (3, .int (f_X7_frictionAt (f_X7_followsPlan_a (upd n 2 ((n 2) + 1))) 2)), (2, .int (f_X7_frictionAt (f_X7_followsPlan_a (upd n 2 ((n 2) + 1))) 1)), (1, .int (f_X7_frictionAt (f_X7_followsPlan_a (upd n 2 ((n 2) + 1))) 0)), (0, .ref o)]) hx hb dX7_tickOn_243 hl (k := 0) rfl (by decide) (by decide) rfl (fun ls hl => ?_)
                  refine lv_goto (tgt := 193) hx hb dX7_tickOn_246 (by decide) ?_
                  refine lv_iload hx hb dX7_tickOn_193 (lv_at hl 0 rfl) ?_
                  refine lv_iconst (v := 4) hx hb dX7_tickOn_195 (by decide) ?_
                  refine lv_icmp_ge (tgt := 249) hx hb dX7_tickOn_196 (by decide) (fun _ => ?_) (fun c0 => absurd (by decide) c0)
                  exact hret _ _ _ _ _ dX7_tickOn_249 X rfl
                refine lv_if_ne (tgt := 238) hx hb dX7_tickOn_219 (by decide) (fun c0_0 => ?_) (fun c0_0 => ?_)
                · refine lv_iconst (v := 0) hx hb dX7_tickOn_238 (by decide) ?_
                  exact J239_30 0 _ _ _ (by first | (rw [v_X7_tickOn_29, if_neg c0_0]; done) | (rw [v_X7_tickOn_29, if_neg c0_0]; rfl) | (simp only [v_X7_tickOn_29, if_neg c0_0]; done)) (lv_sub hl [0, 1, 2, 3, 4, 5, 6, 7] rfl) X
                · refine lv_aload_n hx hb dX7_tickOn_222 rfl (lv_at hl 7 rfl) ?_
                  refine get_mo_0 C hK X 0 rfl fl_X7_7 dX7_tickOn_223 ?_
                  refine lv_iconst (v := 0) hx hb dX7_tickOn_226 (by decide) ?_
                  refine s_ialN C hK X 1 0 rfl rfl (by decide) (by decide) dX7_tickOn_227 ?_
                  refine lv_sipush (v := 1400) hx hb dX7_tickOn_228 (by decide) ?_
                  refine lv_icmp_le (tgt := 238) hx hb dX7_tickOn_231 (by decide) (fun c1_1 => ?_) (fun c1_1 => ?_)
                  · refine lv_iconst (v := 0) hx hb dX7_tickOn_238 (by decide) ?_
                    exact J239_30 0 _ _ _ (by first | (rw [v_X7_tickOn_29, if_pos c0_0, if_pos c1_1]; done) | (rw [v_X7_tickOn_29, if_pos c0_0, if_pos c1_1]; rfl) | (simp only [v_X7_tickOn_29, if_pos c0_0, if_pos c1_1]; done)) (lv_sub hl [0, 1, 2, 3, 4, 5, 6, 7] rfl) X
                  · refine lv_iconst (v := 1) hx hb dX7_tickOn_234 (by decide) ?_
                    refine lv_goto (tgt := 239) hx hb dX7_tickOn_235 (by decide) ?_
                    exact J239_30 1 _ _ _ (by first | (rw [v_X7_tickOn_29, if_pos c0_0, if_neg c1_1]; done) | (rw [v_X7_tickOn_29, if_pos c0_0, if_neg c1_1]; rfl) | (simp only [v_X7_tickOn_29, if_pos c0_0, if_neg c1_1]; done)) (lv_sub hl [0, 1, 2, 3, 4, 5, 6, 7] rfl) X
              refine lv_if_ne (tgt := 238) hx hb dX7_tickOn_219 (by decide) (fun c0_0 => ?_) (fun c0_0 => ?_)
              · refine lv_iconst (v := 0) hx hb dX7_tickOn_238 (by decide) ?_
                exact J239_28 0 _ _ _ (by first | (rw [v_X7_tickOn_27, if_neg c0_0]; done) | (rw [v_X7_tickOn_27, if_neg c0_0]; rfl) | (simp only [v_X7_tickOn_27, if_neg c0_0]; done)) (lv_sub hl [0, 1, 2, 3, 4, 5, 6, 7] rfl) X
              · refine lv_aload_n hx hb dX7_tickOn_222 rfl (lv_at hl 7 rfl) ?_
                refine get_mo_0 C hK X 0 rfl fl_X7_7 dX7_tickOn_223 ?_
                refine lv_iconst (v := 0) hx hb dX7_tickOn_226 (by decide) ?_
                refine s_ialN C hK X 1 0 rfl rfl (by decide) (by decide) dX7_tickOn_227 ?_
                refine lv_sipush (v := 1400) hx hb dX7_tickOn_228 (by decide) ?_
                refine lv_icmp_le (tgt := 238) hx hb dX7_tickOn_231 (by decide) (fun c1_1 => ?_) (fun c1_1 => ?_)
                · refine lv_iconst (v := 0) hx hb dX7_tickOn_238 (by decide) ?_
                  exact J239_28 0 _ _ _ (by first | (rw [v_X7_tickOn_27, if_pos c0_0, if_pos c1_1]; done) | (rw [v_X7_tickOn_27, if_pos c0_0, if_pos c1_1]; rfl) | (simp only [v_X7_tickOn_27, if_pos c0_0, if_pos c1_1]; done)) (lv_sub hl [0, 1, 2, 3, 4, 5, 6, 7] rfl) X
                · refine lv_iconst (v := 1) hx hb dX7_tickOn_234 (by decide) ?_
                  refine lv_goto (tgt := 239) hx hb dX7_tickOn_235 (by decide) ?_
                  exact J239_28 1 _ _ _ (by first | (rw [v_X7_tickOn_27, if_pos c0_0, if_neg c1_1]; done) | (rw [v_X7_tickOn_27, if_pos c0_0, if_neg c1_1]; rfl) | (simp only [v_X7_tickOn_27, if_pos c0_0, if_neg c1_1]; done)) (lv_sub hl [0, 1, 2, 3, 4, 5, 6, 7] rfl) X
            refine lv_if_ne (tgt := 238) hx hb dX7_tickOn_219 (by decide) (fun c0_0 => ?_) (fun c0_0 => ?_)
            · refine lv_iconst (v := 0) hx hb dX7_tickOn_238 (by decide) ?_
              exact J239_24 0 _ _ _ (by first | (rw [v_X7_tickOn_23, if_neg c0_0]; done) | (rw [v_X7_tickOn_23, if_neg c0_0]; rfl) | (simp only [v_X7_tickOn_23, if_neg c0_0]; done)) (lv_sub hl [0, 1, 2, 3, 4, 5, 6, 7] rfl) X
            · refine lv_aload_n hx hb dX7_tickOn_222 rfl (lv_at hl 7 rfl) ?_
              refine get_mo_0 C hK X 0 rfl fl_X7_7 dX7_tickOn_223 ?_
              refine lv_iconst (v := 0) hx hb dX7_tickOn_226 (by decide) ?_
              refine s_ialN C hK X 1 0 rfl rfl (by decide) (by decide) dX7_tickOn_227 ?_
              refine lv_sipush (v := 1400) hx hb dX7_tickOn_228 (by decide) ?_
              refine lv_icmp_le (tgt := 238) hx hb dX7_tickOn_231 (by decide) (fun c1_1 => ?_) (fun c1_1 => ?_)
              · refine lv_iconst (v := 0) hx hb dX7_tickOn_238 (by decide) ?_
                exact J239_24 0 _ _ _ (by first | (rw [v_X7_tickOn_23, if_pos c0_0, if_pos c1_1]; done) | (rw [v_X7_tickOn_23, if_pos c0_0, if_pos c1_1]; rfl) | (simp only [v_X7_tickOn_23, if_pos c0_0, if_pos c1_1]; done)) (lv_sub hl [0, 1, 2, 3, 4, 5, 6, 7] rfl) X
              · refine lv_iconst (v := 1) hx hb dX7_tickOn_234 (by decide) ?_
                refine lv_goto (tgt := 239) hx hb dX7_tickOn_235 (by decide) ?_
                exact J239_24 1 _ _ _ (by first | (rw [v_X7_tickOn_23, if_pos c0_0, if_neg c1_1]; done) | (rw [v_X7_tickOn_23, if_pos c0_0, if_neg c1_1]; rfl) | (simp only [v_X7_tickOn_23, if_pos c0_0, if_neg c1_1]; done)) (lv_sub hl [0, 1, 2, 3, 4, 5, 6, 7] rfl) X
          refine lv_if_ne (tgt := 238) hx hb dX7_tickOn_219 (by decide) (fun c0_0 => ?_) (fun c0_0 => ?_)
          · refine lv_iconst (v := 0) hx hb dX7_tickOn_238 (by decide) ?_
            exact J239_22 0 _ _ _ (by first | (rw [v_X7_tickOn_21, if_neg c0_0]; done) | (rw [v_X7_tickOn_21, if_neg c0_0]; rfl) | (simp only [v_X7_tickOn_21, if_neg c0_0]; done)) (lv_sub hl [0, 1, 2, 3, 4, 5, 6, 7] rfl) X
          · refine lv_aload_n hx hb dX7_tickOn_222 rfl (lv_at hl 7 rfl) ?_
            refine get_mo_0 C hK X 0 rfl fl_X7_7 dX7_tickOn_223 ?_
            refine lv_iconst (v := 0) hx hb dX7_tickOn_226 (by decide) ?_
            refine s_ialN C hK X 1 0 rfl rfl (by decide) (by decide) dX7_tickOn_227 ?_
            refine lv_sipush (v := 1400) hx hb dX7_tickOn_228 (by decide) ?_
            refine lv_icmp_le (tgt := 238) hx hb dX7_tickOn_231 (by decide) (fun c1_1 => ?_) (fun c1_1 => ?_)
            · refine lv_iconst (v := 0) hx hb dX7_tickOn_238 (by decide) ?_
              exact J239_22 0 _ _ _ (by first | (rw [v_X7_tickOn_21, if_pos c0_0, if_pos c1_1]; done) | (rw [v_X7_tickOn_21, if_pos c0_0, if_pos c1_1]; rfl) | (simp only [v_X7_tickOn_21, if_pos c0_0, if_pos c1_1]; done)) (lv_sub hl [0, 1, 2, 3, 4, 5, 6, 7] rfl) X
            · refine lv_iconst (v := 1) hx hb dX7_tickOn_234 (by decide) ?_
              refine lv_goto (tgt := 239) hx hb dX7_tickOn_235 (by decide) ?_
              exact J239_22 1 _ _ _ (by first | (rw [v_X7_tickOn_21, if_pos c0_0, if_neg c1_1]; done) | (rw [v_X7_tickOn_21, if_pos c0_0, if_neg c1_1]; rfl) | (simp only [v_X7_tickOn_21, if_pos c0_0, if_neg c1_1]; done)) (lv_sub hl [0, 1, 2, 3, 4, 5, 6, 7] rfl) X
        refine lv_if_ge (tgt := 162) hx hb dX7_tickOn_155 (by decide) (fun c0_0 => ?_) (fun c0_0 => ?_)
        · refine lv_iload hx hb dX7_tickOn_162 (lv_at hl 0 rfl) ?_
          refine lv_aload_n hx hb dX7_tickOn_164 rfl (lv_at hl 7 rfl) ?_
          refine get_mo_0 C hK X 0 rfl fl_X7_7 dX7_tickOn_165 ?_
          refine lv_iconst (v := 0) hx hb dX7_tickOn_168 (by decide) ?_
          refine s_ialN C hK X 1 0 rfl rfl (by decide) (by decide) dX7_tickOn_169 ?_
          refine s_cS0i C hK hA X (c_X7_lesser l D ty (v_X7_tickOn_16 n) ((v_X7_tickOn_14 n) 0)) [] pk_n rfl sl_X7_lesser wm_X7_73 ⟨Nat.le_of_ble_eq_true rfl, Nat.le_of_ble_eq_true rfl⟩ ⟨Nat.zero_le _, Nat.zero_le _⟩ hl.1 rfl (Nat.le_of_ble_eq_true rfl) dX7_tickOn_170 (fun H locs X => ?_)
          exact J173_18 (f_X7_lesser (v_X7_tickOn_16 n) ((v_X7_tickOn_14 n) 0)) _ _ _ (by first | (rw [v_X7_tickOn_17, if_pos c0_0]; done) | (rw [v_X7_tickOn_17, if_pos c0_0]; rfl) | (simp only [v_X7_tickOn_17, if_pos c0_0]; done)) (lv_sub hl [0, 1, 2, 3, 4, 5, 6, 7] rfl) X
        · refine lv_iconst (v := 0) hx hb dX7_tickOn_158 (by decide) ?_
          refine lv_goto (tgt := 173) hx hb dX7_tickOn_159 (by decide) ?_
          exact J173_18 0 _ _ _ (by first | (rw [v_X7_tickOn_17, if_neg c0_0]; done) | (rw [v_X7_tickOn_17, if_neg c0_0]; rfl) | (simp only [v_X7_tickOn_17, if_neg c0_0]; done)) (lv_sub hl [0, 1, 2, 3, 4, 5, 6, 7] rfl) X
      refine lv_if_ge (tgt := 162) hx hb dX7_tickOn_155 (by decide) (fun c0_0 => ?_) (fun c0_0 => ?_)
      · refine lv_iload hx hb dX7_tickOn_162 (lv_at hl 0 rfl) ?_
        refine lv_aload_n hx hb dX7_tickOn_164 rfl (lv_at hl 7 rfl) ?_
        refine get_mo_0 C hK X 0 rfl fl_X7_7 dX7_tickOn_165 ?_
        refine lv_iconst (v := 0) hx hb dX7_tickOn_168 (by decide) ?_
        refine s_ialN C hK X 1 0 rfl rfl (by decide) (by decide) dX7_tickOn_169 ?_
        refine s_cS0i C hK hA X (c_X7_lesser l D ty (v_X7_tickOn_11 n) ((f_X7_sets_a (f_X7_sets_a (v_X7_tickOn_3 n) (v_X7_tickOn_6 n) 10) (v_X7_tickOn_9 n) 26) 0)) [] pk_n rfl sl_X7_lesser wm_X7_73 ⟨Nat.le_of_ble_eq_true rfl, Nat.le_of_ble_eq_true rfl⟩ ⟨Nat.zero_le _, Nat.zero_le _⟩ hl.1 rfl (Nat.le_of_ble_eq_true rfl) dX7_tickOn_170 (fun H locs X => ?_)
        exact J173_13 (f_X7_lesser (v_X7_tickOn_11 n) ((f_X7_sets_a (f_X7_sets_a (v_X7_tickOn_3 n) (v_X7_tickOn_6 n) 10) (v_X7_tickOn_9 n) 26) 0)) _ _ _ (by first | (rw [v_X7_tickOn_12, if_pos c0_0]; done) | (rw [v_X7_tickOn_12, if_pos c0_0]; rfl) | (simp only [v_X7_tickOn_12, if_pos c0_0]; done)) (lv_sub hl [0, 1, 2, 3, 4, 5, 6, 7] rfl) X
      · refine lv_iconst (v := 0) hx hb dX7_tickOn_158 (by decide) ?_
        refine lv_goto (tgt := 173) hx hb dX7_tickOn_159 (by decide) ?_
        exact J173_13 0 _ _ _ (by first | (rw [v_X7_tickOn_12, if_neg c0_0]; done) | (rw [v_X7_tickOn_12, if_neg c0_0]; rfl) | (simp only [v_X7_tickOn_12, if_neg c0_0]; done)) (lv_sub hl [0, 1, 2, 3, 4, 5, 6, 7] rfl) X
    refine lv_if_ge (tgt := 162) hx hb dX7_tickOn_155 (by decide) (fun c0_0 => ?_) (fun c0_0 => ?_)
    · refine lv_iload hx hb dX7_tickOn_162 (lv_at hl 0 rfl) ?_
      refine lv_aload_n hx hb dX7_tickOn_164 rfl (lv_at hl 7 rfl) ?_
      refine get_mo_0 C hK X 0 rfl fl_X7_7 dX7_tickOn_165 ?_
      refine lv_iconst (v := 0) hx hb dX7_tickOn_168 (by decide) ?_
      refine s_ialN C hK X 1 0 rfl rfl (by decide) (by decide) dX7_tickOn_169 ?_
      refine s_cS0i C hK hA X (c_X7_lesser l D ty (v_X7_tickOn_8 n) ((f_X7_sets_a (v_X7_tickOn_3 n) (v_X7_tickOn_6 n) 10) 0)) [] pk_n rfl sl_X7_lesser wm_X7_73 ⟨Nat.le_of_ble_eq_true rfl, Nat.le_of_ble_eq_true rfl⟩ ⟨Nat.zero_le _, Nat.zero_le _⟩ hl.1 rfl (Nat.le_of_ble_eq_true rfl) dX7_tickOn_170 (fun H locs X => ?_)
      exact J173_10 (f_X7_lesser (v_X7_tickOn_8 n) ((f_X7_sets_a (v_X7_tickOn_3 n) (v_X7_tickOn_6 n) 10) 0)) _ _ _ (by first | (rw [v_X7_tickOn_9, if_pos c0_0]; done) | (rw [v_X7_tickOn_9, if_pos c0_0]; rfl) | (simp only [v_X7_tickOn_9, if_pos c0_0]; done)) (lv_sub hl [0, 1, 2, 3, 4, 5, 6, 7] rfl) X
    · refine lv_iconst (v := 0) hx hb dX7_tickOn_158 (by decide) ?_
      refine lv_goto (tgt := 173) hx hb dX7_tickOn_159 (by decide) ?_
      exact J173_10 0 _ _ _ (by first | (rw [v_X7_tickOn_9, if_neg c0_0]; done) | (rw [v_X7_tickOn_9, if_neg c0_0]; rfl) | (simp only [v_X7_tickOn_9, if_neg c0_0]; done)) (lv_sub hl [0, 1, 2, 3, 4, 5, 6, 7] rfl) X
  refine lv_if_ge (tgt := 162) hx hb dX7_tickOn_155 (by decide) (fun c0_0 => ?_) (fun c0_0 => ?_)
  · refine lv_iload hx hb dX7_tickOn_162 (lv_at hl 0 rfl) ?_
    refine lv_aload_n hx hb dX7_tickOn_164 rfl (lv_at hl 7 rfl) ?_
    refine get_mo_0 C hK X 0 rfl fl_X7_7 dX7_tickOn_165 ?_
    refine lv_iconst (v := 0) hx hb dX7_tickOn_168 (by decide) ?_
    refine s_ialN C hK X 1 0 rfl rfl (by decide) (by decide) dX7_tickOn_169 ?_
    refine s_cS0i C hK hA X (c_X7_lesser l D ty (v_X7_tickOn_5 n) ((v_X7_tickOn_3 n) 0)) [] pk_n rfl sl_X7_lesser wm_X7_73 ⟨Nat.le_of_ble_eq_true rfl, Nat.le_of_ble_eq_true rfl⟩ ⟨Nat.zero_le _, Nat.zero_le _⟩ hl.1 rfl (Nat.le_of_ble_eq_true rfl) dX7_tickOn_170 (fun H locs X => ?_)
    exact J173_7 (f_X7_lesser (v_X7_tickOn_5 n) ((v_X7_tickOn_3 n) 0)) _ _ _ (by first | (rw [v_X7_tickOn_6, if_pos c0_0]; done) | (rw [v_X7_tickOn_6, if_pos c0_0]; rfl) | (simp only [v_X7_tickOn_6, if_pos c0_0]; done)) (lv_sub hl [0, 1, 2, 3, 4, 5, 6, 7] rfl) X
  · refine lv_iconst (v := 0) hx hb dX7_tickOn_158 (by decide) ?_
    refine lv_goto (tgt := 173) hx hb dX7_tickOn_159 (by decide) ?_
    exact J173_7 0 _ _ _ (by first | (rw [v_X7_tickOn_6, if_neg c0_0]; done) | (rw [v_X7_tickOn_6, if_neg c0_0]; rfl) | (simp only [v_X7_tickOn_6, if_neg c0_0]; done)) (lv_sub hl [0, 1, 2, 3, 4, 5, 6, 7] rfl) X
def v_X7_speeds_1 (n : F1) (V : Int32) : F1 := (f_X7_sets_a (f_X7_sets_a (upd (upd (upd (upd (upd n 0 V) 4 V) 5 0) 7 150) 9 0) V 10) 0 11)
theorem okm_X7_speeds_2 (n : F1) (V : Int32) (hM : MOK n) : MOK (v_X7_speeds_1 n V) := by
  exact (MOK_w (j := 0) (k := 1) (by omega) (by decide) (MOK_w (j := 0) (k := 0) (by omega) (by decide) (MOK_i (by decide) (MOK_i (by decide) (MOK_i (by decide) (MOK_i (by decide) (MOK_i (by decide) hM)))))))
def v_X7_speeds_3 (n : F1) (V : Int32) : F1 := (f_X7_sets_a (f_X7_sets_a (f_X7_sets_a (f_X7_sets_a (v_X7_speeds_1 n V) 0 12) 0 13) 0 18) 0 20)
theorem okm_X7_speeds_4 (n : F1) (V : Int32) (hM : MOK n) : MOK (v_X7_speeds_3 n V) := by
  exact (MOK_k0 (j := 0) (by omega) (MOK_w (j := 0) (k := 8) (by omega) (by decide) (MOK_w (j := 0) (k := 3) (by omega) (by decide) (MOK_w (j := 0) (k := 2) (by omega) (by decide) (okm_X7_speeds_2 n V hM)))))
def v_X7_speeds_5 (n : F1) (V : Int32) : F1 := (f_X7_sets_a (f_X7_sets_a (f_X7_sets_a (f_X7_sets_a (v_X7_speeds_3 n V) V 26) 0 27) 0 28) 0 29)
theorem okm_X7_speeds_6 (n : F1) (V : Int32) (hM : MOK n) : MOK (v_X7_speeds_5 n V) := by
  exact (MOK_w (j := 1) (k := 3) (by omega) (by decide) (MOK_w (j := 1) (k := 2) (by omega) (by decide) (MOK_w (j := 1) (k := 1) (by omega) (by decide) (MOK_w (j := 1) (k := 0) (by omega) (by decide) (okm_X7_speeds_4 n V hM)))))
def v_X7_speeds_7 (n : F1) (V : Int32) : F1 := (f_X7_sets_a (f_X7_sets_a (f_X7_sets_a (f_X7_sets_a (v_X7_speeds_5 n V) 0 34) 0 36) V 42) 0 43)
theorem okm_X7_speeds_8 (n : F1) (V : Int32) (hM : MOK n) : MOK (v_X7_speeds_7 n V) := by
  exact (MOK_w (j := 2) (k := 1) (by omega) (by decide) (MOK_w (j := 2) (k := 0) (by omega) (by decide) (MOK_k0 (j := 1) (by omega) (MOK_w (j := 1) (k := 8) (by omega) (by decide) (okm_X7_speeds_6 n V hM)))))
def v_X7_speeds_9 (n : F1) (V : Int32) : F1 := (f_X7_sets_a (f_X7_sets_a (f_X7_sets_a (f_X7_sets_a (v_X7_speeds_7 n V) 0 44) 0 45) 0 50) 0 52)
theorem okm_X7_speeds_10 (n : F1) (V : Int32) (hM : MOK n) : MOK (v_X7_speeds_9 n V) := by
  exact (MOK_k0 (j := 2) (by omega) (MOK_w (j := 2) (k := 8) (by omega) (by decide) (MOK_w (j := 2) (k := 3) (by omega) (by decide) (MOK_w (j := 2) (k := 2) (by omega) (by decide) (okm_X7_speeds_8 n V hM)))))
def v_X7_speeds_11 (n : F1) (V : Int32) : F1 := (f_X7_sets_a (f_X7_sets_a (f_X7_sets_a (f_X7_sets_a (v_X7_speeds_9 n V) V 58) 0 59) 0 60) 0 61)
theorem okm_X7_speeds_12 (n : F1) (V : Int32) (hM : MOK n) : MOK (v_X7_speeds_11 n V) := by
  exact (MOK_w (j := 3) (k := 3) (by omega) (by decide) (MOK_w (j := 3) (k := 2) (by omega) (by decide) (MOK_w (j := 3) (k := 1) (by omega) (by decide) (MOK_w (j := 3) (k := 0) (by omega) (by decide) (okm_X7_speeds_10 n V hM)))))
def f_X7_speeds_a (n : F1) (V : Int32) : F1 := (f_X7_sets_a (f_X7_sets_a (v_X7_speeds_11 n V) 0 66) 0 68)
theorem ok_X7_speeds_a (n : F1) (V : Int32) (hM : MOK n) : MOK (f_X7_speeds_a n V) := by
  (try simp only [f_X7_speeds_a]); exact (MOK_k0 (j := 3) (by omega) (MOK_w (j := 3) (k := 8) (by omega) (by decide) (okm_X7_speeds_12 n V hM)))
set_option maxHeartbeats 4000000 in
set_option maxRecDepth 100000 in
theorem c_X7_speeds (l : Launch) (D : va_G) (ty : Nat → ClassId) (o : Nat) (a : Nat) (b : Nat) (c_ : Nat) (g : F1) (hs : Int64) (n : F1) (V : Int32) (hM : MOK n) : MC l D ty yX7_speeds cX7_speeds 3 none 2 [.ref o, .int V] [(o, moE g hs a b c_), (a, arE ty 253 n)] none [(o, moE g hs a b c_), (a, arE ty 253 (f_X7_speeds_a n V))] := by
  refine mc_v (by decide +kernel) (Nat.le_of_ble_eq_true rfl) ?_
  intro p e s m args below meth c A Q ls C hK hA X hret hl
  have hx := C.1
  have hb := C.2.1
  have hl : lv_has ls 3 [(0, .ref o), (1, .int V)] := hl
  have X : Wd D A s.heap [(o, moE g hs a b c_), (a, arE ty 253 n)] s.heap [] := X
  refine lv_aload_n hx hb dX7_speeds_0 rfl (lv_at hl 0 rfl) ?_
  refine get_mo_0 C hK X 0 rfl fl_X7_7 dX7_speeds_1 ?_
  refine lv_iconst (v := 0) hx hb dX7_speeds_4 (by decide) ?_
  refine lv_iload_n hx hb dX7_speeds_5 rfl (lv_at hl 1 rfl) ?_
  refine s_iasN C hK X 1 0 rfl rfl (by decide) (by decide) dX7_speeds_6 (fun H locs X => ?_)
  have X : Wd D A s.heap [(o, moE g hs a b c_), (a, arE ty 253 (upd n 0 V))] H locs := X
  refine lv_aload_n hx hb dX7_speeds_7 rfl (lv_at hl 0 rfl) ?_
  refine get_mo_0 C hK X 0 rfl fl_X7_7 dX7_speeds_8 ?_
  refine lv_iconst (v := 4) hx hb dX7_speeds_11 (by decide) ?_
  refine lv_iload_n hx hb dX7_speeds_12 rfl (lv_at hl 1 rfl) ?_
  refine s_iasN C hK X 1 4 rfl rfl (by decide) (by decide) dX7_speeds_13 (fun H locs X => ?_)
  have X : Wd D A s.heap [(o, moE g hs a b c_), (a, arE ty 253 (upd (upd n 0 V) 4 V))] H locs := X
  refine lv_aload_n hx hb dX7_speeds_14 rfl (lv_at hl 0 rfl) ?_
  refine get_mo_0 C hK X 0 rfl fl_X7_7 dX7_speeds_15 ?_
  refine lv_iconst (v := 5) hx hb dX7_speeds_18 (by decide) ?_
  refine lv_iconst (v := 0) hx hb dX7_speeds_19 (by decide) ?_
  refine s_iasN C hK X 1 5 rfl rfl (by decide) (by decide) dX7_speeds_20 (fun H locs X => ?_)
  have X : Wd D A s.heap [(o, moE g hs a b c_), (a, arE ty 253 (upd (upd (upd n 0 V) 4 V) 5 0))] H locs := X
  refine lv_aload_n hx hb dX7_speeds_21 rfl (lv_at hl 0 rfl) ?_
  refine get_mo_0 C hK X 0 rfl fl_X7_7 dX7_speeds_22 ?_
  refine lv_bipush (v := 7) hx hb dX7_speeds_25 (by decide) ?_
  refine lv_sipush (v := 150) hx hb dX7_speeds_27 (by decide) ?_
  refine s_iasN C hK X 1 7 rfl rfl (by decide) (by decide) dX7_speeds_30 (fun H locs X => ?_)
  have X : Wd D A s.heap [(o, moE g hs a b c_), (a, arE ty 253 (upd (upd (upd (upd n 0 V) 4 V) 5 0) 7 150))] H locs := X
  refine lv_aload_n hx hb dX7_speeds_31 rfl (lv_at hl 0 rfl) ?_
  refine get_mo_0 C hK X 0 rfl fl_X7_7 dX7_speeds_32 ?_
  refine lv_bipush (v := 9) hx hb dX7_speeds_35 (by decide) ?_
  refine lv_iconst (v := 0) hx hb dX7_speeds_37 (by decide) ?_
  refine s_iasN C hK X 1 9 rfl rfl (by decide) (by decide) dX7_speeds_38 (fun H locs X => ?_)
  have X : Wd D A s.heap [(o, moE g hs a b c_), (a, arE ty 253 (upd (upd (upd (upd (upd n 0 V) 4 V) 5 0) 7 150) 9 0))] H locs := X
  refine lv_iconst (v := 0) hx hb dX7_speeds_39 (by decide) ?_
  refine lv_istore_n (lv' := [(2, .int 0), (0, .ref o), (1, .int V)]) hx hb dX7_speeds_40 rfl hl (by decide) rfl (fun ls hl => ?_)
  refine lv_iload_n hx hb dX7_speeds_41 rfl (lv_at hl 0 rfl) ?_
  refine lv_iconst (v := 4) hx hb dX7_speeds_42 (by decide) ?_
  refine lv_icmp_ge (tgt := 96) hx hb dX7_speeds_43 (by decide) (fun c0 => absurd c0 (by decide)) (fun _ => ?_)
  refine lv_aload_n hx hb dX7_speeds_46 rfl (lv_at hl 1 rfl) ?_
  refine lv_iload_n hx hb dX7_speeds_47 rfl (lv_at hl 0 rfl) ?_
  refine lv_iconst (v := 0) hx hb dX7_speeds_48 (by decide) ?_
  refine lv_iload_n hx hb dX7_speeds_49 rfl (lv_at hl 2 rfl) ?_
  refine s_cVv (ws' := [(o, moE g hs a b c_), (a, arE ty 253 (f_X7_sets_a (upd (upd (upd (upd (upd n 0 V) 4 V) 5 0) 7 150) 9 0) V 10))]) C hK hA X (c_X7_sets l D ty o a b c_ g hs (upd (upd (upd (upd (upd n 0 V) 4 V) 5 0) 7 150) 9 0) 0 0 V 10 (by decide) (by decide)) [0, 1] (pk_c rfl (pk_c rfl pk_n)) rfl (pk_c rfl (pk_c rfl pk_n)) (em_t (em_t em_n)) rfl ml_X7_sets wm_X7_59 (q0 := 0) rfl rfl rfl ⟨Nat.le_of_ble_eq_true rfl, Nat.le_of_ble_eq_true rfl⟩ ⟨Nat.zero_le _, Nat.zero_le _⟩ hl.1 rfl (Nat.le_of_ble_eq_true rfl) dX7_speeds_50 (fun H locs X => ?_)
  refine lv_aload_n hx hb dX7_speeds_53 rfl (lv_at hl 1 rfl) ?_
  refine lv_iload_n hx hb dX7_speeds_54 rfl (lv_at hl 0 rfl) ?_
  refine lv_iconst (v := 1) hx hb dX7_speeds_55 (by decide) ?_
  refine lv_iconst (v := 0) hx hb dX7_speeds_56 (by decide) ?_
  refine s_cVv (ws' := [(o, moE g hs a b c_), (a, arE ty 253 (v_X7_speeds_1 n V))]) C hK hA X (c_X7_sets l D ty o a b c_ g hs (f_X7_sets_a (upd (upd (upd (upd (upd n 0 V) 4 V) 5 0) 7 150) 9 0) V 10) 0 1 0 11 (by decide) (by decide)) [0, 1] (pk_c rfl (pk_c rfl pk_n)) rfl (pk_c rfl (pk_c rfl pk_n)) (em_t (em_t em_n)) rfl ml_X7_sets wm_X7_59 (q0 := 0) rfl rfl rfl ⟨Nat.le_of_ble_eq_true rfl, Nat.le_of_ble_eq_true rfl⟩ ⟨Nat.zero_le _, Nat.zero_le _⟩ hl.1 rfl (Nat.le_of_ble_eq_true rfl) dX7_speeds_57 (fun H locs X => ?_)
  refine lv_aload_n hx hb dX7_speeds_60 rfl (lv_at hl 1 rfl) ?_
  refine lv_iload_n hx hb dX7_speeds_61 rfl (lv_at hl 0 rfl) ?_
  refine lv_iconst (v := 2) hx hb dX7_speeds_62 (by decide) ?_
  refine lv_iconst (v := 0) hx hb dX7_speeds_63 (by decide) ?_
  refine s_cVv (ws' := [(o, moE g hs a b c_), (a, arE ty 253 (f_X7_sets_a (v_X7_speeds_1 n V) 0 12))]) C hK hA X (c_X7_sets l D ty o a b c_ g hs (v_X7_speeds_1 n V) 0 2 0 12 (by decide) (by decide)) [0, 1] (pk_c rfl (pk_c rfl pk_n)) rfl (pk_c rfl (pk_c rfl pk_n)) (em_t (em_t em_n)) rfl ml_X7_sets wm_X7_59 (q0 := 0) rfl rfl rfl ⟨Nat.le_of_ble_eq_true rfl, Nat.le_of_ble_eq_true rfl⟩ ⟨Nat.zero_le _, Nat.zero_le _⟩ hl.1 rfl (Nat.le_of_ble_eq_true rfl) dX7_speeds_64 (fun H locs X => ?_)
  refine lv_aload_n hx hb dX7_speeds_67 rfl (lv_at hl 1 rfl) ?_
  refine lv_iload_n hx hb dX7_speeds_68 rfl (lv_at hl 0 rfl) ?_
  refine lv_iconst (v := 3) hx hb dX7_speeds_69 (by decide) ?_
  refine lv_iconst (v := 0) hx hb dX7_speeds_70 (by decide) ?_
  refine s_cVv (ws' := [(o, moE g hs a b c_), (a, arE ty 253 (f_X7_sets_a (f_X7_sets_a (v_X7_speeds_1 n V) 0 12) 0 13))]) C hK hA X (c_X7_sets l D ty o a b c_ g hs (f_X7_sets_a (v_X7_speeds_1 n V) 0 12) 0 3 0 13 (by decide) (by decide)) [0, 1] (pk_c rfl (pk_c rfl pk_n)) rfl (pk_c rfl (pk_c rfl pk_n)) (em_t (em_t em_n)) rfl ml_X7_sets wm_X7_59 (q0 := 0) rfl rfl rfl ⟨Nat.le_of_ble_eq_true rfl, Nat.le_of_ble_eq_true rfl⟩ ⟨Nat.zero_le _, Nat.zero_le _⟩ hl.1 rfl (Nat.le_of_ble_eq_true rfl) dX7_speeds_71 (fun H locs X => ?_)
  refine lv_aload_n hx hb dX7_speeds_74 rfl (lv_at hl 1 rfl) ?_
  refine lv_iload_n hx hb dX7_speeds_75 rfl (lv_at hl 0 rfl) ?_
  refine lv_bipush (v := 8) hx hb dX7_speeds_76 (by decide) ?_
  refine lv_iconst (v := 0) hx hb dX7_speeds_78 (by decide) ?_
  refine s_cVv (ws' := [(o, moE g hs a b c_), (a, arE ty 253 (f_X7_sets_a (f_X7_sets_a (f_X7_sets_a (v_X7_speeds_1 n V) 0 12) 0 13) 0 18))]) C hK hA X (c_X7_sets l D ty o a b c_ g hs (f_X7_sets_a (f_X7_sets_a (v_X7_speeds_1 n V) 0 12) 0 13) 0 8 0 18 (by decide) (by decide)) [0, 1] (pk_c rfl (pk_c rfl pk_n)) rfl (pk_c rfl (pk_c rfl pk_n)) (em_t (em_t em_n)) rfl ml_X7_sets wm_X7_59 (q0 := 0) rfl rfl rfl ⟨Nat.le_of_ble_eq_true rfl, Nat.le_of_ble_eq_true rfl⟩ ⟨Nat.zero_le _, Nat.zero_le _⟩ hl.1 rfl (Nat.le_of_ble_eq_true rfl) dX7_speeds_79 (fun H locs X => ?_)
  refine lv_aload_n hx hb dX7_speeds_82 rfl (lv_at hl 1 rfl) ?_
  refine lv_iload_n hx hb dX7_speeds_83 rfl (lv_at hl 0 rfl) ?_
  refine lv_bipush (v := 10) hx hb dX7_speeds_84 (by decide) ?_
  refine lv_iconst (v := 0) hx hb dX7_speeds_86 (by decide) ?_
  refine s_cVv (ws' := [(o, moE g hs a b c_), (a, arE ty 253 (v_X7_speeds_3 n V))]) C hK hA X (c_X7_sets l D ty o a b c_ g hs (f_X7_sets_a (f_X7_sets_a (f_X7_sets_a (v_X7_speeds_1 n V) 0 12) 0 13) 0 18) 0 10 0 20 (by decide) (by decide)) [0, 1] (pk_c rfl (pk_c rfl pk_n)) rfl (pk_c rfl (pk_c rfl pk_n)) (em_t (em_t em_n)) rfl ml_X7_sets wm_X7_59 (q0 := 0) rfl rfl rfl ⟨Nat.le_of_ble_eq_true rfl, Nat.le_of_ble_eq_true rfl⟩ ⟨Nat.zero_le _, Nat.zero_le _⟩ hl.1 rfl (Nat.le_of_ble_eq_true rfl) dX7_speeds_87 (fun H locs X => ?_)
  refine lv_iinc (v := 1) (lv' := [(2, .int 1), (0, .ref o), (1, .int V)]) hx hb dX7_speeds_90 hl (k := 0) rfl (by decide) (by decide) rfl (fun ls hl => ?_)
  refine lv_goto (tgt := 41) hx hb dX7_speeds_93 (by decide) ?_
  refine lv_iload_n hx hb dX7_speeds_41 rfl (lv_at hl 0 rfl) ?_
  refine lv_iconst (v := 4) hx hb dX7_speeds_42 (by decide) ?_
  refine lv_icmp_ge (tgt := 96) hx hb dX7_speeds_43 (by decide) (fun c0 => absurd c0 (by decide)) (fun _ => ?_)
  refine lv_aload_n hx hb dX7_speeds_46 rfl (lv_at hl 1 rfl) ?_
  refine lv_iload_n hx hb dX7_speeds_47 rfl (lv_at hl 0 rfl) ?_
  refine lv_iconst (v := 0) hx hb dX7_speeds_48 (by decide) ?_
  refine lv_iload_n hx hb dX7_speeds_49 rfl (lv_at hl 2 rfl) ?_
  refine s_cVv (ws' := [(o, moE g hs a b c_), (a, arE ty 253 (f_X7_sets_a (v_X7_speeds_3 n V) V 26))]) C hK hA X (c_X7_sets l D ty o a b c_ g hs (v_X7_speeds_3 n V) 1 0 V 26 (by decide) (by decide)) [0, 1] (pk_c rfl (pk_c rfl pk_n)) rfl (pk_c rfl (pk_c rfl pk_n)) (em_t (em_t em_n)) rfl ml_X7_sets wm_X7_59 (q0 := 0) rfl rfl rfl ⟨Nat.le_of_ble_eq_true rfl, Nat.le_of_ble_eq_true rfl⟩ ⟨Nat.zero_le _, Nat.zero_le _⟩ hl.1 rfl (Nat.le_of_ble_eq_true rfl) dX7_speeds_50 (fun H locs X => ?_)
  refine lv_aload_n hx hb dX7_speeds_53 rfl (lv_at hl 1 rfl) ?_
  refine lv_iload_n hx hb dX7_speeds_54 rfl (lv_at hl 0 rfl) ?_
  refine lv_iconst (v := 1) hx hb dX7_speeds_55 (by decide) ?_
  refine lv_iconst (v := 0) hx hb dX7_speeds_56 (by decide) ?_
  refine s_cVv (ws' := [(o, moE g hs a b c_), (a, arE ty 253 (f_X7_sets_a (f_X7_sets_a (v_X7_speeds_3 n V) V 26) 0 27))]) C hK hA X (c_X7_sets l D ty o a b c_ g hs (f_X7_sets_a (v_X7_speeds_3 n V) V 26) 1 1 0 27 (by decide) (by decide)) [0, 1] (pk_c rfl (pk_c rfl pk_n)) rfl (pk_c rfl (pk_c rfl pk_n)) (em_t (em_t em_n)) rfl ml_X7_sets wm_X7_59 (q0 := 0) rfl rfl rfl ⟨Nat.le_of_ble_eq_true rfl, Nat.le_of_ble_eq_true rfl⟩ ⟨Nat.zero_le _, Nat.zero_le _⟩ hl.1 rfl (Nat.le_of_ble_eq_true rfl) dX7_speeds_57 (fun H locs X => ?_)
  refine lv_aload_n hx hb dX7_speeds_60 rfl (lv_at hl 1 rfl) ?_
  refine lv_iload_n hx hb dX7_speeds_61 rfl (lv_at hl 0 rfl) ?_
  refine lv_iconst (v := 2) hx hb dX7_speeds_62 (by decide) ?_
  refine lv_iconst (v := 0) hx hb dX7_speeds_63 (by decide) ?_
  refine s_cVv (ws' := [(o, moE g hs a b c_), (a, arE ty 253 (f_X7_sets_a (f_X7_sets_a (f_X7_sets_a (v_X7_speeds_3 n V) V 26) 0 27) 0 28))]) C hK hA X (c_X7_sets l D ty o a b c_ g hs (f_X7_sets_a (f_X7_sets_a (v_X7_speeds_3 n V) V 26) 0 27) 1 2 0 28 (by decide) (by decide)) [0, 1] (pk_c rfl (pk_c rfl pk_n)) rfl (pk_c rfl (pk_c rfl pk_n)) (em_t (em_t em_n)) rfl ml_X7_sets wm_X7_59 (q0 := 0) rfl rfl rfl ⟨Nat.le_of_ble_eq_true rfl, Nat.le_of_ble_eq_true rfl⟩ ⟨Nat.zero_le _, Nat.zero_le _⟩ hl.1 rfl (Nat.le_of_ble_eq_true rfl) dX7_speeds_64 (fun H locs X => ?_)
  refine lv_aload_n hx hb dX7_speeds_67 rfl (lv_at hl 1 rfl) ?_
  refine lv_iload_n hx hb dX7_speeds_68 rfl (lv_at hl 0 rfl) ?_
  refine lv_iconst (v := 3) hx hb dX7_speeds_69 (by decide) ?_
  refine lv_iconst (v := 0) hx hb dX7_speeds_70 (by decide) ?_
  refine s_cVv (ws' := [(o, moE g hs a b c_), (a, arE ty 253 (v_X7_speeds_5 n V))]) C hK hA X (c_X7_sets l D ty o a b c_ g hs (f_X7_sets_a (f_X7_sets_a (f_X7_sets_a (v_X7_speeds_3 n V) V 26) 0 27) 0 28) 1 3 0 29 (by decide) (by decide)) [0, 1] (pk_c rfl (pk_c rfl pk_n)) rfl (pk_c rfl (pk_c rfl pk_n)) (em_t (em_t em_n)) rfl ml_X7_sets wm_X7_59 (q0 := 0) rfl rfl rfl ⟨Nat.le_of_ble_eq_true rfl, Nat.le_of_ble_eq_true rfl⟩ ⟨Nat.zero_le _, Nat.zero_le _⟩ hl.1 rfl (Nat.le_of_ble_eq_true rfl) dX7_speeds_71 (fun H locs X => ?_)
  refine lv_aload_n hx hb dX7_speeds_74 rfl (lv_at hl 1 rfl) ?_
  refine lv_iload_n hx hb dX7_speeds_75 rfl (lv_at hl 0 rfl) ?_
  refine lv_bipush (v := 8) hx hb dX7_speeds_76 (by decide) ?_
  refine lv_iconst (v := 0) hx hb dX7_speeds_78 (by decide) ?_
  refine s_cVv (ws' := [(o, moE g hs a b c_), (a, arE ty 253 (f_X7_sets_a (v_X7_speeds_5 n V) 0 34))]) C hK hA X (c_X7_sets l D ty o a b c_ g hs (v_X7_speeds_5 n V) 1 8 0 34 (by decide) (by decide)) [0, 1] (pk_c rfl (pk_c rfl pk_n)) rfl (pk_c rfl (pk_c rfl pk_n)) (em_t (em_t em_n)) rfl ml_X7_sets wm_X7_59 (q0 := 0) rfl rfl rfl ⟨Nat.le_of_ble_eq_true rfl, Nat.le_of_ble_eq_true rfl⟩ ⟨Nat.zero_le _, Nat.zero_le _⟩ hl.1 rfl (Nat.le_of_ble_eq_true rfl) dX7_speeds_79 (fun H locs X => ?_)
  refine lv_aload_n hx hb dX7_speeds_82 rfl (lv_at hl 1 rfl) ?_
  refine lv_iload_n hx hb dX7_speeds_83 rfl (lv_at hl 0 rfl) ?_
  refine lv_bipush (v := 10) hx hb dX7_speeds_84 (by decide) ?_
  refine lv_iconst (v := 0) hx hb dX7_speeds_86 (by decide) ?_
  refine s_cVv (ws' := [(o, moE g hs a b c_), (a, arE ty 253 (f_X7_sets_a (f_X7_sets_a (v_X7_speeds_5 n V) 0 34) 0 36))]) C hK hA X (c_X7_sets l D ty o a b c_ g hs (f_X7_sets_a (v_X7_speeds_5 n V) 0 34) 1 10 0 36 (by decide) (by decide)) [0, 1] (pk_c rfl (pk_c rfl pk_n)) rfl (pk_c rfl (pk_c rfl pk_n)) (em_t (em_t em_n)) rfl ml_X7_sets wm_X7_59 (q0 := 0) rfl rfl rfl ⟨Nat.le_of_ble_eq_true rfl, Nat.le_of_ble_eq_true rfl⟩ ⟨Nat.zero_le _, Nat.zero_le _⟩ hl.1 rfl (Nat.le_of_ble_eq_true rfl) dX7_speeds_87 (fun H locs X => ?_)
  refine lv_iinc (v := 2) (lv' := [(2, .int 2), (0, .ref o), (1, .int V)]) hx hb dX7_speeds_90 hl (k := 0) rfl (by decide) (by decide) rfl (fun ls hl => ?_)
  refine lv_goto (tgt := 41) hx hb dX7_speeds_93 (by decide) ?_
  refine lv_iload_n hx hb dX7_speeds_41 rfl (lv_at hl 0 rfl) ?_
  refine lv_iconst (v := 4) hx hb dX7_speeds_42 (by decide) ?_
  refine lv_icmp_ge (tgt := 96) hx hb dX7_speeds_43 (by decide) (fun c0 => absurd c0 (by decide)) (fun _ => ?_)
  refine lv_aload_n hx hb dX7_speeds_46 rfl (lv_at hl 1 rfl) ?_
  refine lv_iload_n hx hb dX7_speeds_47 rfl (lv_at hl 0 rfl) ?_
  refine lv_iconst (v := 0) hx hb dX7_speeds_48 (by decide) ?_
  refine lv_iload_n hx hb dX7_speeds_49 rfl (lv_at hl 2 rfl) ?_
  refine s_cVv (ws' := [(o, moE g hs a b c_), (a, arE ty 253 (f_X7_sets_a (f_X7_sets_a (f_X7_sets_a (v_X7_speeds_5 n V) 0 34) 0 36) V 42))]) C hK hA X (c_X7_sets l D ty o a b c_ g hs (f_X7_sets_a (f_X7_sets_a (v_X7_speeds_5 n V) 0 34) 0 36) 2 0 V 42 (by decide) (by decide)) [0, 1] (pk_c rfl (pk_c rfl pk_n)) rfl (pk_c rfl (pk_c rfl pk_n)) (em_t (em_t em_n)) rfl ml_X7_sets wm_X7_59 (q0 := 0) rfl rfl rfl ⟨Nat.le_of_ble_eq_true rfl, Nat.le_of_ble_eq_true rfl⟩ ⟨Nat.zero_le _, Nat.zero_le _⟩ hl.1 rfl (Nat.le_of_ble_eq_true rfl) dX7_speeds_50 (fun H locs X => ?_)
  refine lv_aload_n hx hb dX7_speeds_53 rfl (lv_at hl 1 rfl) ?_
  refine lv_iload_n hx hb dX7_speeds_54 rfl (lv_at hl 0 rfl) ?_
  refine lv_iconst (v := 1) hx hb dX7_speeds_55 (by decide) ?_
  refine lv_iconst (v := 0) hx hb dX7_speeds_56 (by decide) ?_
  refine s_cVv (ws' := [(o, moE g hs a b c_), (a, arE ty 253 (v_X7_speeds_7 n V))]) C hK hA X (c_X7_sets l D ty o a b c_ g hs (f_X7_sets_a (f_X7_sets_a (f_X7_sets_a (v_X7_speeds_5 n V) 0 34) 0 36) V 42) 2 1 0 43 (by decide) (by decide)) [0, 1] (pk_c rfl (pk_c rfl pk_n)) rfl (pk_c rfl (pk_c rfl pk_n)) (em_t (em_t em_n)) rfl ml_X7_sets wm_X7_59 (q0 := 0) rfl rfl rfl ⟨Nat.le_of_ble_eq_true rfl, Nat.le_of_ble_eq_true rfl⟩ ⟨Nat.zero_le _, Nat.zero_le _⟩ hl.1 rfl (Nat.le_of_ble_eq_true rfl) dX7_speeds_57 (fun H locs X => ?_)
  refine lv_aload_n hx hb dX7_speeds_60 rfl (lv_at hl 1 rfl) ?_
  refine lv_iload_n hx hb dX7_speeds_61 rfl (lv_at hl 0 rfl) ?_
  refine lv_iconst (v := 2) hx hb dX7_speeds_62 (by decide) ?_
  refine lv_iconst (v := 0) hx hb dX7_speeds_63 (by decide) ?_
  refine s_cVv (ws' := [(o, moE g hs a b c_), (a, arE ty 253 (f_X7_sets_a (v_X7_speeds_7 n V) 0 44))]) C hK hA X (c_X7_sets l D ty o a b c_ g hs (v_X7_speeds_7 n V) 2 2 0 44 (by decide) (by decide)) [0, 1] (pk_c rfl (pk_c rfl pk_n)) rfl (pk_c rfl (pk_c rfl pk_n)) (em_t (em_t em_n)) rfl ml_X7_sets wm_X7_59 (q0 := 0) rfl rfl rfl ⟨Nat.le_of_ble_eq_true rfl, Nat.le_of_ble_eq_true rfl⟩ ⟨Nat.zero_le _, Nat.zero_le _⟩ hl.1 rfl (Nat.le_of_ble_eq_true rfl) dX7_speeds_64 (fun H locs X => ?_)
  refine lv_aload_n hx hb dX7_speeds_67 rfl (lv_at hl 1 rfl) ?_
  refine lv_iload_n hx hb dX7_speeds_68 rfl (lv_at hl 0 rfl) ?_
  refine lv_iconst (v := 3) hx hb dX7_speeds_69 (by decide) ?_
  refine lv_iconst (v := 0) hx hb dX7_speeds_70 (by decide) ?_
  refine s_cVv (ws' := [(o, moE g hs a b c_), (a, arE ty 253 (f_X7_sets_a (f_X7_sets_a (v_X7_speeds_7 n V) 0 44) 0 45))]) C hK hA X (c_X7_sets l D ty o a b c_ g hs (f_X7_sets_a (v_X7_speeds_7 n V) 0 44) 2 3 0 45 (by decide) (by decide)) [0, 1] (pk_c rfl (pk_c rfl pk_n)) rfl (pk_c rfl (pk_c rfl pk_n)) (em_t (em_t em_n)) rfl ml_X7_sets wm_X7_59 (q0 := 0) rfl rfl rfl ⟨Nat.le_of_ble_eq_true rfl, Nat.le_of_ble_eq_true rfl⟩ ⟨Nat.zero_le _, Nat.zero_le _⟩ hl.1 rfl (Nat.le_of_ble_eq_true rfl) dX7_speeds_71 (fun H locs X => ?_)
  refine lv_aload_n hx hb dX7_speeds_74 rfl (lv_at hl 1 rfl) ?_
  refine lv_iload_n hx hb dX7_speeds_75 rfl (lv_at hl 0 rfl) ?_
  refine lv_bipush (v := 8) hx hb dX7_speeds_76 (by decide) ?_
  refine lv_iconst (v := 0) hx hb dX7_speeds_78 (by decide) ?_
  refine s_cVv (ws' := [(o, moE g hs a b c_), (a, arE ty 253 (f_X7_sets_a (f_X7_sets_a (f_X7_sets_a (v_X7_speeds_7 n V) 0 44) 0 45) 0 50))]) C hK hA X (c_X7_sets l D ty o a b c_ g hs (f_X7_sets_a (f_X7_sets_a (v_X7_speeds_7 n V) 0 44) 0 45) 2 8 0 50 (by decide) (by decide)) [0, 1] (pk_c rfl (pk_c rfl pk_n)) rfl (pk_c rfl (pk_c rfl pk_n)) (em_t (em_t em_n)) rfl ml_X7_sets wm_X7_59 (q0 := 0) rfl rfl rfl ⟨Nat.le_of_ble_eq_true rfl, Nat.le_of_ble_eq_true rfl⟩ ⟨Nat.zero_le _, Nat.zero_le _⟩ hl.1 rfl (Nat.le_of_ble_eq_true rfl) dX7_speeds_79 (fun H locs X => ?_)
  refine lv_aload_n hx hb dX7_speeds_82 rfl (lv_at hl 1 rfl) ?_
  refine lv_iload_n hx hb dX7_speeds_83 rfl (lv_at hl 0 rfl) ?_
  refine lv_bipush (v := 10) hx hb dX7_speeds_84 (by decide) ?_
  refine lv_iconst (v := 0) hx hb dX7_speeds_86 (by decide) ?_
  refine s_cVv (ws' := [(o, moE g hs a b c_), (a, arE ty 253 (v_X7_speeds_9 n V))]) C hK hA X (c_X7_sets l D ty o a b c_ g hs (f_X7_sets_a (f_X7_sets_a (f_X7_sets_a (v_X7_speeds_7 n V) 0 44) 0 45) 0 50) 2 10 0 52 (by decide) (by decide)) [0, 1] (pk_c rfl (pk_c rfl pk_n)) rfl (pk_c rfl (pk_c rfl pk_n)) (em_t (em_t em_n)) rfl ml_X7_sets wm_X7_59 (q0 := 0) rfl rfl rfl ⟨Nat.le_of_ble_eq_true rfl, Nat.le_of_ble_eq_true rfl⟩ ⟨Nat.zero_le _, Nat.zero_le _⟩ hl.1 rfl (Nat.le_of_ble_eq_true rfl) dX7_speeds_87 (fun H locs X => ?_)
  refine lv_iinc (v := 3) (lv' := [(2, .int 3), (0, .ref o), (1, .int V)]) hx hb dX7_speeds_90 hl (k := 0) rfl (by decide) (by decide) rfl (fun ls hl => ?_)
  refine lv_goto (tgt := 41) hx hb dX7_speeds_93 (by decide) ?_
  refine lv_iload_n hx hb dX7_speeds_41 rfl (lv_at hl 0 rfl) ?_
  refine lv_iconst (v := 4) hx hb dX7_speeds_42 (by decide) ?_
  refine lv_icmp_ge (tgt := 96) hx hb dX7_speeds_43 (by decide) (fun c0 => absurd c0 (by decide)) (fun _ => ?_)
  refine lv_aload_n hx hb dX7_speeds_46 rfl (lv_at hl 1 rfl) ?_
  refine lv_iload_n hx hb dX7_speeds_47 rfl (lv_at hl 0 rfl) ?_
  refine lv_iconst (v := 0) hx hb dX7_speeds_48 (by decide) ?_
  refine lv_iload_n hx hb dX7_speeds_49 rfl (lv_at hl 2 rfl) ?_
  refine s_cVv (ws' := [(o, moE g hs a b c_), (a, arE ty 253 (f_X7_sets_a (v_X7_speeds_9 n V) V 58))]) C hK hA X (c_X7_sets l D ty o a b c_ g hs (v_X7_speeds_9 n V) 3 0 V 58 (by decide) (by decide)) [0, 1] (pk_c rfl (pk_c rfl pk_n)) rfl (pk_c rfl (pk_c rfl pk_n)) (em_t (em_t em_n)) rfl ml_X7_sets wm_X7_59 (q0 := 0) rfl rfl rfl ⟨Nat.le_of_ble_eq_true rfl, Nat.le_of_ble_eq_true rfl⟩ ⟨Nat.zero_le _, Nat.zero_le _⟩ hl.1 rfl (Nat.le_of_ble_eq_true rfl) dX7_speeds_50 (fun H locs X => ?_)
  refine lv_aload_n hx hb dX7_speeds_53 rfl (lv_at hl 1 rfl) ?_
  refine lv_iload_n hx hb dX7_speeds_54 rfl (lv_at hl 0 rfl) ?_
  refine lv_iconst (v := 1) hx hb dX7_speeds_55 (by decide) ?_
  refine lv_iconst (v := 0) hx hb dX7_speeds_56 (by decide) ?_
  refine s_cVv (ws' := [(o, moE g hs a b c_), (a, arE ty 253 (f_X7_sets_a (f_X7_sets_a (v_X7_speeds_9 n V) V 58) 0 59))]) C hK hA X (c_X7_sets l D ty o a b c_ g hs (f_X7_sets_a (v_X7_speeds_9 n V) V 58) 3 1 0 59 (by decide) (by decide)) [0, 1] (pk_c rfl (pk_c rfl pk_n)) rfl (pk_c rfl (pk_c rfl pk_n)) (em_t (em_t em_n)) rfl ml_X7_sets wm_X7_59 (q0 := 0) rfl rfl rfl ⟨Nat.le_of_ble_eq_true rfl, Nat.le_of_ble_eq_true rfl⟩ ⟨Nat.zero_le _, Nat.zero_le _⟩ hl.1 rfl (Nat.le_of_ble_eq_true rfl) dX7_speeds_57 (fun H locs X => ?_)
  refine lv_aload_n hx hb dX7_speeds_60 rfl (lv_at hl 1 rfl) ?_
  refine lv_iload_n hx hb dX7_speeds_61 rfl (lv_at hl 0 rfl) ?_
  refine lv_iconst (v := 2) hx hb dX7_speeds_62 (by decide) ?_
  refine lv_iconst (v := 0) hx hb dX7_speeds_63 (by decide) ?_
  refine s_cVv (ws' := [(o, moE g hs a b c_), (a, arE ty 253 (f_X7_sets_a (f_X7_sets_a (f_X7_sets_a (v_X7_speeds_9 n V) V 58) 0 59) 0 60))]) C hK hA X (c_X7_sets l D ty o a b c_ g hs (f_X7_sets_a (f_X7_sets_a (v_X7_speeds_9 n V) V 58) 0 59) 3 2 0 60 (by decide) (by decide)) [0, 1] (pk_c rfl (pk_c rfl pk_n)) rfl (pk_c rfl (pk_c rfl pk_n)) (em_t (em_t em_n)) rfl ml_X7_sets wm_X7_59 (q0 := 0) rfl rfl rfl ⟨Nat.le_of_ble_eq_true rfl, Nat.le_of_ble_eq_true rfl⟩ ⟨Nat.zero_le _, Nat.zero_le _⟩ hl.1 rfl (Nat.le_of_ble_eq_true rfl) dX7_speeds_64 (fun H locs X => ?_)
  refine lv_aload_n hx hb dX7_speeds_67 rfl (lv_at hl 1 rfl) ?_
  refine lv_iload_n hx hb dX7_speeds_68 rfl (lv_at hl 0 rfl) ?_
  refine lv_iconst (v := 3) hx hb dX7_speeds_69 (by decide) ?_
  refine lv_iconst (v := 0) hx hb dX7_speeds_70 (by decide) ?_
  refine s_cVv (ws' := [(o, moE g hs a b c_), (a, arE ty 253 (v_X7_speeds_11 n V))]) C hK hA X (c_X7_sets l D ty o a b c_ g hs (f_X7_sets_a (f_X7_sets_a (f_X7_sets_a (v_X7_speeds_9 n V) V 58) 0 59) 0 60) 3 3 0 61 (by decide) (by decide)) [0, 1] (pk_c rfl (pk_c rfl pk_n)) rfl (pk_c rfl (pk_c rfl pk_n)) (em_t (em_t em_n)) rfl ml_X7_sets wm_X7_59 (q0 := 0) rfl rfl rfl ⟨Nat.le_of_ble_eq_true rfl, Nat.le_of_ble_eq_true rfl⟩ ⟨Nat.zero_le _, Nat.zero_le _⟩ hl.1 rfl (Nat.le_of_ble_eq_true rfl) dX7_speeds_71 (fun H locs X => ?_)
  refine lv_aload_n hx hb dX7_speeds_74 rfl (lv_at hl 1 rfl) ?_
  refine lv_iload_n hx hb dX7_speeds_75 rfl (lv_at hl 0 rfl) ?_
  refine lv_bipush (v := 8) hx hb dX7_speeds_76 (by decide) ?_
  refine lv_iconst (v := 0) hx hb dX7_speeds_78 (by decide) ?_
  refine s_cVv (ws' := [(o, moE g hs a b c_), (a, arE ty 253 (f_X7_sets_a (v_X7_speeds_11 n V) 0 66))]) C hK hA X (c_X7_sets l D ty o a b c_ g hs (v_X7_speeds_11 n V) 3 8 0 66 (by decide) (by decide)) [0, 1] (pk_c rfl (pk_c rfl pk_n)) rfl (pk_c rfl (pk_c rfl pk_n)) (em_t (em_t em_n)) rfl ml_X7_sets wm_X7_59 (q0 := 0) rfl rfl rfl ⟨Nat.le_of_ble_eq_true rfl, Nat.le_of_ble_eq_true rfl⟩ ⟨Nat.zero_le _, Nat.zero_le _⟩ hl.1 rfl (Nat.le_of_ble_eq_true rfl) dX7_speeds_79 (fun H locs X => ?_)
  refine lv_aload_n hx hb dX7_speeds_82 rfl (lv_at hl 1 rfl) ?_
  refine lv_iload_n hx hb dX7_speeds_83 rfl (lv_at hl 0 rfl) ?_
  refine lv_bipush (v := 10) hx hb dX7_speeds_84 (by decide) ?_
  refine lv_iconst (v := 0) hx hb dX7_speeds_86 (by decide) ?_
  refine s_cVv (ws' := [(o, moE g hs a b c_), (a, arE ty 253 (f_X7_sets_a (f_X7_sets_a (v_X7_speeds_11 n V) 0 66) 0 68))]) C hK hA X (c_X7_sets l D ty o a b c_ g hs (f_X7_sets_a (v_X7_speeds_11 n V) 0 66) 3 10 0 68 (by decide) (by decide)) [0, 1] (pk_c rfl (pk_c rfl pk_n)) rfl (pk_c rfl (pk_c rfl pk_n)) (em_t (em_t em_n)) rfl ml_X7_sets wm_X7_59 (q0 := 0) rfl rfl rfl ⟨Nat.le_of_ble_eq_true rfl, Nat.le_of_ble_eq_true rfl⟩ ⟨Nat.zero_le _, Nat.zero_le _⟩ hl.1 rfl (Nat.le_of_ble_eq_true rfl) dX7_speeds_87 (fun H locs X => ?_)
  refine lv_iinc (v := 4) (lv' := [(2, .int 4), (0, .ref o), (1, .int V)]) hx hb dX7_speeds_90 hl (k := 0) rfl (by decide) (by decide) rfl (fun ls hl => ?_)
  refine lv_goto (tgt := 41) hx hb dX7_speeds_93 (by decide) ?_
  refine lv_iload_n hx hb dX7_speeds_41 rfl (lv_at hl 0 rfl) ?_
  refine lv_iconst (v := 4) hx hb dX7_speeds_42 (by decide) ?_
  refine lv_icmp_ge (tgt := 96) hx hb dX7_speeds_43 (by decide) (fun _ => ?_) (fun c0 => absurd (by decide) c0)
  have e_1_0 : (f_X7_speeds_a n V) = (f_X7_sets_a (f_X7_sets_a (v_X7_speeds_11 n V) 0 66) 0 68) := by first | (rw [f_X7_speeds_a]; done) | (rw [f_X7_speeds_a]; rfl) | (simp only [f_X7_speeds_a]; done)
  exact hret _ _ _ _ _ dX7_speeds_96 X (by rw [e_1_0])
def f_X7_begins_a (n : F1) : F1 := (upd (upd (upd (va_cpy (fun _ => 0) n 0 0 253) 7 150) 8 1) 74 1)
theorem begins_ok (n : F1) : MOK (f_X7_begins_a n) := by
  have e : ∀ q, q < 253 → q ≠ 7 → q ≠ 8 → q ≠ 74 → f_X7_begins_a n q = 0 := by
    intro q h h1 h2 h3
    unfold f_X7_begins_a
    rw [pk_un h3, pk_un h2, pk_un h1]
    unfold va_cpy; rw [if_pos (by omega)]
  have e74 : f_X7_begins_a n 74 = 1 := pk_us
  refine ⟨by rw [e74]; decide, by rw [e 111 (by omega) (by omega) (by omega) (by omega)]; decide, by rw [e 132 (by omega) (by omega) (by omega) (by omega)]; decide, fun j hj => by rw [e _ (by omega) (by omega) (by omega) (by omega)]; decide⟩
theorem ok_X7_begins_a (n : F1) : MOK (f_X7_begins_a n) := begins_ok n
set_option maxHeartbeats 4000000 in
set_option maxRecDepth 100000 in
theorem c_X7_begins (l : Launch) (D : va_G) (ty : Nat → ClassId) (o : Nat) (a : Nat) (b : Nat) (c_ : Nat) (g : F1) (hs : Int64) (n : F1) : MC l D ty yX7_begins cX7_begins 2 none 0 [.ref o] [(o, moE g hs a b c_), (a, arE ty 253 n)] none [(o, moE g hs a b c_), (a, arE ty 253 (f_X7_begins_a n))] := by
  refine mc_v (by decide +kernel) (Nat.le_of_ble_eq_true rfl) ?_
  intro p e s m args below meth c A Q ls C hK hA X hret hl
  have hx := C.1
  have hb := C.2.1
  have hl : lv_has ls 2 [(0, .ref o)] := hl
  have X : Wd D A s.heap [(o, moE g hs a b c_), (a, arE ty 253 n)] s.heap [] := X
  refine lv_iconst (v := 0) hx hb dX7_begins_0 (by decide) ?_
  refine lv_istore_n (lv' := [(1, .int 0), (0, .ref o)]) hx hb dX7_begins_1 rfl hl (by decide) rfl (fun ls hl => ?_)
  have K1 : ∀ (y1_0 : Int32) (y1_1 : F1) (ls : Array Slot) (H : Heap) (locs : List Loc), y1_0 = 253 → y1_1 = (va_cpy (fun _ => 0) n 0 0 253) → lv_has ls 2 [(1, .int y1_0), (0, .ref o)] → Wd D A s.heap [(o, moE g hs a b c_), (a, arE ty 253 y1_1)] H locs → W p l e (rmD 0) s m args below meth c H locs 0 0 Q (F0 m 22 ls []) := by
    intro y1_0 y1_1 ls H locs ey1_0 ey1_1 hl X
    replace ey1_0 := ey1_0.symm; subst ey1_0; replace ey1_1 := ey1_1.symm; subst ey1_1
    refine lv_aload_n hx hb dX7_begins_22 rfl (lv_at hl 1 rfl) ?_
    refine get_mo_0 C hK X 0 rfl fl_X7_7 dX7_begins_23 ?_
    refine lv_bipush (v := 7) hx hb dX7_begins_26 (by decide) ?_
    refine lv_sipush (v := 150) hx hb dX7_begins_28 (by decide) ?_
    refine s_iasN C hK X 1 7 rfl rfl (by decide) (by decide) dX7_begins_31 (fun H locs X => ?_)
    have X : Wd D A s.heap [(o, moE g hs a b c_), (a, arE ty 253 (upd (va_cpy (fun _ => 0) n 0 0 253) 7 150))] H locs := X
    refine lv_aload_n hx hb dX7_begins_32 rfl (lv_at hl 1 rfl) ?_
    refine get_mo_0 C hK X 0 rfl fl_X7_7 dX7_begins_33 ?_
    refine lv_bipush (v := 8) hx hb dX7_begins_36 (by decide) ?_
    refine lv_iconst (v := 1) hx hb dX7_begins_38 (by decide) ?_
    refine s_iasN C hK X 1 8 rfl rfl (by decide) (by decide) dX7_begins_39 (fun H locs X => ?_)
    have X : Wd D A s.heap [(o, moE g hs a b c_), (a, arE ty 253 (upd (upd (va_cpy (fun _ => 0) n 0 0 253) 7 150) 8 1))] H locs := X
    refine lv_aload_n hx hb dX7_begins_40 rfl (lv_at hl 1 rfl) ?_
    refine get_mo_0 C hK X 0 rfl fl_X7_7 dX7_begins_41 ?_
    refine lv_bipush (v := 74) hx hb dX7_begins_44 (by decide) ?_
    refine lv_iconst (v := 1) hx hb dX7_begins_46 (by decide) ?_
    refine s_iasN C hK X 1 74 rfl rfl (by decide) (by decide) dX7_begins_47 (fun H locs X => ?_)
    have X : Wd D A s.heap [(o, moE g hs a b c_), (a, arE ty 253 (upd (upd (upd (va_cpy (fun _ => 0) n 0 0 253) 7 150) 8 1) 74 1))] H locs := X
    have e_1_0 : (f_X7_begins_a n) = (upd (upd (upd (va_cpy (fun _ => 0) n 0 0 253) 7 150) 8 1) 74 1) := by first | (rw [f_X7_begins_a]; done) | (rw [f_X7_begins_a]; rfl) | (simp only [f_X7_begins_a]; done)
    exact hret _ _ _ _ _ dX7_begins_48 X (by rw [e_1_0])
  have L1 : ∀ (kf i : Nat) (y1_0 : Int32) (y1_1 : F1) (ls : Array Slot) (H : Heap) (locs : List Loc), 253 - i < kf → (i ≤ 253) → y1_0 = (nI i) → y1_1 = (va_cpy (fun _ => 0) n 0 0 i) → lv_has ls 2 [(1, .int y1_0), (0, .ref o)] → Wd D A s.heap [(o, moE g hs a b c_), (a, arE ty 253 y1_1)] H locs → W p l e (rmD 0) s m args below meth c H locs 0 0 Q (F0 m 2 ls []) := by
    intro kf
    induction kf with
    | zero => intro i y1_0 y1_1 ls H locs hk; exact absurd hk (Nat.not_lt_zero _)
    | succ kf ih1 =>
      intro i y1_0 y1_1 ls H locs hk hI ey1_0 ey1_1 hl X
      replace ey1_0 := ey1_0.symm; subst ey1_0; replace ey1_1 := ey1_1.symm; subst ey1_1
      refine lv_iload_n hx hb dX7_begins_2 rfl (lv_at hl 0 rfl) ?_
      refine lv_sipush (v := 253) hx hb dX7_begins_3 (by decide) ?_
      refine lv_icmp_ge (tgt := 22) hx hb dX7_begins_6 (by decide) (fun c0_0 => ?_) (fun c0_0 => ?_)
      · have hE : i = 253 := eq_of_nIle (a := 253) (by decide) (by omega) hI c0_0
        exact K1 (nI i) (va_cpy (fun _ => 0) n 0 0 i) _ _ _ (by rw [hE]; rfl) (by rw [hE]) (lv_sub hl [0, 1] rfl) X
      · have h1 : i < 253 := lt_of_nnIle (a := 253) (b := i) (by decide) (by omega) c0_0
        refine lv_aload_n hx hb dX7_begins_9 rfl (lv_at hl 1 rfl) ?_
        refine get_mo_0 C hK X 0 rfl fl_X7_7 dX7_begins_10 ?_
        refine lv_iload_n hx hb dX7_begins_13 rfl (lv_at hl 0 rfl) ?_
        refine lv_iconst (v := 0) hx hb dX7_begins_14 (by decide) ?_
        refine s_iasN C hK X 1 i rfl rfl h1 (by decide) dX7_begins_15 (fun H locs X => ?_)
        have X : Wd D A s.heap [(o, moE g hs a b c_), (a, arE ty 253 (upd (va_cpy (fun _ => 0) n 0 0 i) i 0))] H locs := X
        refine lv_iinc (v := ((nI i) + 1)) (lv' := [(1, .int ((nI i) + 1)), (0, .ref o)]) hx hb dX7_begins_16 hl (k := 0) rfl rfl (by decide) rfl (fun ls hl => ?_)
        refine lv_goto (tgt := 2) hx hb dX7_begins_19 (by decide) ?_
        have h1 : i < 253 := lt_of_nnIle (a := 253) (b := i) (by decide) (by omega) c0_0
        exact ih1 (i + 1) ((nI i) + 1) (upd (va_cpy (fun _ => 0) n 0 0 i) i 0) _ _ _ (by omega) (by omega) (nI_1 i) (by rw [← cpy_step]; rw [Nat.zero_add]) (lv_sub hl [0, 1] rfl) X
  exact L1 (253 + 1) 0 0 n _ _ _ (by omega) (Nat.zero_le _) rfl cpy_0.symm (lv_sub hl [0, 1] rfl) X
def f_X7_tellCar (n : F1) (k : Nat) : Int32 := (if 8 ≤ (nI k) then (if (nI k) = 8 then (if (f_X7_isActive n) = 0 then 0 else 1) else (n 8)) else (n k))
set_option maxHeartbeats 4000000 in
set_option maxRecDepth 100000 in
theorem c_X7_tellCar (l : Launch) (D : va_G) (ty : Nat → ClassId) (o : Nat) (a : Nat) (b : Nat) (c_ : Nat) (g : F1) (hs : Int64) (n : F1) (k : Nat) (hk9 : k ≤ 9) : MC l D ty yX7_tellCar cX7_tellCar 2 (some .int) 4 [.ref o, .int (nI k)] [(o, moE g hs a b c_), (a, arE ty 253 n)] (some (.int (f_X7_tellCar n k))) [(o, moE g hs a b c_), (a, arE ty 253 n)] := by
  refine mc_i (by decide +kernel) (Nat.le_of_ble_eq_true rfl) ?_
  intro p e s m args below meth c A Q ls C hK hA X hret hl
  have hx := C.1
  have hb := C.2.1
  have hl : lv_has ls 2 [(0, .ref o), (1, .int (nI k))] := hl
  have X : Wd D A s.heap [(o, moE g hs a b c_), (a, arE ty 253 n)] s.heap [] := X
  refine lv_iload_n hx hb dX7_tellCar_0 rfl (lv_at hl 1 rfl) ?_
  refine lv_bipush (v := 8) hx hb dX7_tellCar_1 (by decide) ?_
  refine lv_icmp_ge (tgt := 15) hx hb dX7_tellCar_3 (by decide) (fun c0_0 => ?_) (fun c0_0 => ?_)
  · refine lv_iload_n hx hb dX7_tellCar_15 rfl (lv_at hl 1 rfl) ?_
    refine lv_bipush (v := 8) hx hb dX7_tellCar_16 (by decide) ?_
    refine lv_icmp_ne (tgt := 36) hx hb dX7_tellCar_18 (by decide) (fun c1_1 => ?_) (fun c1_1 => ?_)
    · refine lv_aload_n hx hb dX7_tellCar_36 rfl (lv_at hl 0 rfl) ?_
      refine get_mo_0 C hK X 0 rfl fl_X7_7 dX7_tellCar_37 ?_
      refine lv_bipush (v := 8) hx hb dX7_tellCar_40 (by decide) ?_
      refine s_ialN C hK X 1 8 rfl rfl (by decide) (by decide) dX7_tellCar_42 ?_
      exact hret _ _ _ _ _ _ dX7_tellCar_43 X rfl (by first | (rw [f_X7_tellCar, if_pos c0_0, if_neg c1_1]; done) | (rw [f_X7_tellCar, if_pos c0_0, if_neg c1_1]; rfl) | (simp only [f_X7_tellCar, if_pos c0_0, if_neg c1_1]; done))
    · refine lv_aload_n hx hb dX7_tellCar_21 rfl (lv_at hl 0 rfl) ?_
      refine s_cV0i C hK hA X (c_X7_isActive l D ty o a b c_ g hs n) [0, 1] (pk_c rfl (pk_c rfl pk_n)) rfl ml_X7_isActive wm_X7_83 (q0 := 0) rfl rfl rfl ⟨Nat.le_of_ble_eq_true rfl, Nat.le_of_ble_eq_true rfl⟩ ⟨Nat.zero_le _, Nat.zero_le _⟩ hl.1 rfl (Nat.le_of_ble_eq_true rfl) dX7_tellCar_22 (fun H locs X => ?_)
      refine lv_if_eq (tgt := 32) hx hb dX7_tellCar_25 (by decide) (fun c2_2 => ?_) (fun c2_2 => ?_)
      · refine lv_iconst (v := 0) hx hb dX7_tellCar_32 (by decide) ?_
        refine lv_goto (tgt := 43) hx hb dX7_tellCar_33 (by decide) ?_
        exact hret _ _ _ _ _ _ dX7_tellCar_43 X rfl (by first | (rw [f_X7_tellCar, if_pos c0_0, if_pos c1_1, if_pos c2_2]; done) | (rw [f_X7_tellCar, if_pos c0_0, if_pos c1_1, if_pos c2_2]; rfl) | (simp only [f_X7_tellCar, if_pos c0_0, if_pos c1_1, if_pos c2_2]; done))
      · refine lv_iconst (v := 1) hx hb dX7_tellCar_28 (by decide) ?_
        refine lv_goto (tgt := 43) hx hb dX7_tellCar_29 (by decide) ?_
        exact hret _ _ _ _ _ _ dX7_tellCar_43 X rfl (by first | (rw [f_X7_tellCar, if_pos c0_0, if_pos c1_1, if_neg c2_2]; done) | (rw [f_X7_tellCar, if_pos c0_0, if_pos c1_1, if_neg c2_2]; rfl) | (simp only [f_X7_tellCar, if_pos c0_0, if_pos c1_1, if_neg c2_2]; done))
  · have h8 : k < 8 := lt_of_nnIle (a := 8) (b := k) (by decide) (by omega) c0_0
    refine lv_aload_n hx hb dX7_tellCar_6 rfl (lv_at hl 0 rfl) ?_
    refine get_mo_0 C hK X 0 rfl fl_X7_7 dX7_tellCar_7 ?_
    refine lv_iload_n hx hb dX7_tellCar_10 rfl (lv_at hl 1 rfl) ?_
    refine s_ialN C hK X 1 k rfl rfl (by omega) (by decide) dX7_tellCar_11 ?_
    refine lv_goto (tgt := 43) hx hb dX7_tellCar_12 (by decide) ?_
    exact hret _ _ _ _ _ _ dX7_tellCar_43 X rfl (by first | (rw [f_X7_tellCar, if_neg c0_0]; done) | (rw [f_X7_tellCar, if_neg c0_0]; rfl) | (simp only [f_X7_tellCar, if_neg c0_0]; done))
def f_X7_tellWheel (n : F1) (j : Nat) (k : Nat) : Int32 := (if 9 ≤ (nI k) then (if (nI k) = 9 then (f_X7_slipOf n j) else (if (nI k) = 10 then (f_X7_estimated n j) else (f_X7_acceleration n j))) else (n (10 + 16 * j + k)))
set_option maxHeartbeats 4000000 in
set_option maxRecDepth 100000 in
theorem c_X7_tellWheel (l : Launch) (D : va_G) (ty : Nat → ClassId) (o : Nat) (a : Nat) (b : Nat) (c_ : Nat) (g : F1) (hs : Int64) (n : F1) (j : Nat) (k : Nat) (hM : MOK n) (hj : j < 4) (hk9 : k ≤ 11) : MC l D ty yX7_tellWheel cX7_tellWheel 3 (some .int) 4 [.ref o, .int (nI j), .int (nI k)] [(o, moE g hs a b c_), (a, arE ty 253 n)] (some (.int (f_X7_tellWheel n j k))) [(o, moE g hs a b c_), (a, arE ty 253 n)] := by
  refine mc_i (by decide +kernel) (Nat.le_of_ble_eq_true rfl) ?_
  intro p e s m args below meth c A Q ls C hK hA X hret hl
  have hx := C.1
  have hb := C.2.1
  have hl : lv_has ls 3 [(0, .ref o), (1, .int (nI j)), (2, .int (nI k))] := hl
  have X : Wd D A s.heap [(o, moE g hs a b c_), (a, arE ty 253 n)] s.heap [] := X
  refine lv_iload_n hx hb dX7_tellWheel_0 rfl (lv_at hl 2 rfl) ?_
  refine lv_bipush (v := 9) hx hb dX7_tellWheel_1 (by decide) ?_
  refine lv_icmp_ge (tgt := 15) hx hb dX7_tellWheel_3 (by decide) (fun c0_0 => ?_) (fun c0_0 => ?_)
  · refine lv_iload_n hx hb dX7_tellWheel_15 rfl (lv_at hl 2 rfl) ?_
    refine lv_bipush (v := 9) hx hb dX7_tellWheel_16 (by decide) ?_
    refine lv_icmp_ne (tgt := 29) hx hb dX7_tellWheel_18 (by decide) (fun c1_1 => ?_) (fun c1_1 => ?_)
    · refine lv_iload_n hx hb dX7_tellWheel_29 rfl (lv_at hl 2 rfl) ?_
      refine lv_bipush (v := 10) hx hb dX7_tellWheel_30 (by decide) ?_
      refine lv_icmp_ne (tgt := 43) hx hb dX7_tellWheel_32 (by decide) (fun c2_2 => ?_) (fun c2_2 => ?_)
      · refine lv_aload_n hx hb dX7_tellWheel_43 rfl (lv_at hl 0 rfl) ?_
        refine lv_iload_n hx hb dX7_tellWheel_44 rfl (lv_at hl 1 rfl) ?_
        refine s_cV0i C hK hA X (c_X7_acceleration l D ty o a b c_ g hs n j hM (by assumption)) [0, 1] (pk_c rfl (pk_c rfl pk_n)) rfl ml_X7_acceleration wm_X7_96 (q0 := 0) rfl rfl rfl ⟨Nat.le_of_ble_eq_true rfl, Nat.le_of_ble_eq_true rfl⟩ ⟨Nat.zero_le _, Nat.zero_le _⟩ hl.1 rfl (Nat.le_of_ble_eq_true rfl) dX7_tellWheel_45 (fun H locs X => ?_)
        exact hret _ _ _ _ _ _ dX7_tellWheel_48 X rfl (by first | (rw [f_X7_tellWheel, if_pos c0_0, if_neg c1_1, if_neg c2_2]; done) | (rw [f_X7_tellWheel, if_pos c0_0, if_neg c1_1, if_neg c2_2]; rfl) | (simp only [f_X7_tellWheel, if_pos c0_0, if_neg c1_1, if_neg c2_2]; done))
      · refine lv_aload_n hx hb dX7_tellWheel_35 rfl (lv_at hl 0 rfl) ?_
        refine lv_iload_n hx hb dX7_tellWheel_36 rfl (lv_at hl 1 rfl) ?_
        refine s_cV0i C hK hA X (c_X7_estimated l D ty o a b c_ g hs n j hM (by assumption)) [0, 1] (pk_c rfl (pk_c rfl pk_n)) rfl ml_X7_estimated wm_X7_93 (q0 := 0) rfl rfl rfl ⟨Nat.le_of_ble_eq_true rfl, Nat.le_of_ble_eq_true rfl⟩ ⟨Nat.zero_le _, Nat.zero_le _⟩ hl.1 rfl (Nat.le_of_ble_eq_true rfl) dX7_tellWheel_37 (fun H locs X => ?_)
        refine lv_goto (tgt := 48) hx hb dX7_tellWheel_40 (by decide) ?_
        exact hret _ _ _ _ _ _ dX7_tellWheel_48 X rfl (by first | (rw [f_X7_tellWheel, if_pos c0_0, if_neg c1_1, if_pos c2_2]; done) | (rw [f_X7_tellWheel, if_pos c0_0, if_neg c1_1, if_pos c2_2]; rfl) | (simp only [f_X7_tellWheel, if_pos c0_0, if_neg c1_1, if_pos c2_2]; done))
    · refine lv_aload_n hx hb dX7_tellWheel_21 rfl (lv_at hl 0 rfl) ?_
      refine lv_iload_n hx hb dX7_tellWheel_22 rfl (lv_at hl 1 rfl) ?_
      refine s_cV0i C hK hA X (c_X7_slipOf l D ty o a b c_ g hs n j (by assumption)) [0, 1] (pk_c rfl (pk_c rfl pk_n)) rfl ml_X7_slipOf wm_X7_52 (q0 := 0) rfl rfl rfl ⟨Nat.le_of_ble_eq_true rfl, Nat.le_of_ble_eq_true rfl⟩ ⟨Nat.zero_le _, Nat.zero_le _⟩ hl.1 rfl (Nat.le_of_ble_eq_true rfl) dX7_tellWheel_23 (fun H locs X => ?_)
      refine lv_goto (tgt := 48) hx hb dX7_tellWheel_26 (by decide) ?_
      exact hret _ _ _ _ _ _ dX7_tellWheel_48 X rfl (by first | (rw [f_X7_tellWheel, if_pos c0_0, if_pos c1_1]; done) | (rw [f_X7_tellWheel, if_pos c0_0, if_pos c1_1]; rfl) | (simp only [f_X7_tellWheel, if_pos c0_0, if_pos c1_1]; done))
  · have h9 : k < 9 := lt_of_nnIle (a := 9) (b := k) (by decide) (by omega) c0_0
    refine lv_aload_n hx hb dX7_tellWheel_6 rfl (lv_at hl 0 rfl) ?_
    refine lv_iload_n hx hb dX7_tellWheel_7 rfl (lv_at hl 1 rfl) ?_
    refine lv_iload_n hx hb dX7_tellWheel_8 rfl (lv_at hl 2 rfl) ?_
    refine s_cV0i C hK hA X (c_X7_get l D ty o a b c_ g hs n (nI j) (nI k) (10 + 16 * j + k) (atN j k) (by omega)) [0, 1] (pk_c rfl (pk_c rfl pk_n)) rfl ml_X7_get wm_X7_45 (q0 := 0) rfl rfl rfl ⟨Nat.le_of_ble_eq_true rfl, Nat.le_of_ble_eq_true rfl⟩ ⟨Nat.zero_le _, Nat.zero_le _⟩ hl.1 rfl (Nat.le_of_ble_eq_true rfl) dX7_tellWheel_9 (fun H locs X => ?_)
    refine lv_goto (tgt := 48) hx hb dX7_tellWheel_12 (by decide) ?_
    exact hret _ _ _ _ _ _ dX7_tellWheel_48 X rfl (by first | (rw [f_X7_tellWheel, if_neg c0_0]; done) | (rw [f_X7_tellWheel, if_neg c0_0]; rfl) | (simp only [f_X7_tellWheel, if_neg c0_0]; done))
def f_X7_mix_o_h (hs : Int64) (v : Int32) : Int64 := ((31 * hs) + v.toInt64)
set_option maxHeartbeats 4000000 in
set_option maxRecDepth 100000 in
theorem c_X7_mix (l : Launch) (D : va_G) (ty : Nat → ClassId) (o : Nat) (a : Nat) (b : Nat) (c_ : Nat) (g : F1) (hs : Int64) (v : Int32) : MC l D ty yX7_mix cX7_mix 2 none 0 [.ref o, .int v] [(o, moE g hs a b c_)] none [(o, moE g (f_X7_mix_o_h hs v) a b c_)] := by
  refine mc_v (by decide +kernel) (Nat.le_of_ble_eq_true rfl) ?_
  intro p e s m args below meth c A Q ls C hK hA X hret hl
  have hx := C.1
  have hb := C.2.1
  have hl : lv_has ls 2 [(0, .ref o), (1, .int v)] := hl
  have X : Wd D A s.heap [(o, moE g hs a b c_)] s.heap [] := X
  refine lv_aload_n hx hb dX7_mix_0 rfl (lv_at hl 0 rfl) ?_
  refine lv_ldc2 hx hb C.2.2.2.1 (C.2.2.2.2 _ wk_X7_168) dX7_mix_1 ?_
  refine lv_aload_n hx hb dX7_mix_4 rfl (lv_at hl 0 rfl) ?_
  refine get_mo_5 C hK X 0 rfl fl_X7_170 dX7_mix_5 ?_
  refine lv_lmul hx hb dX7_mix_8 ?_
  refine lv_iload_n hx hb dX7_mix_9 rfl (lv_at hl 1 rfl) ?_
  refine lv_i2l hx hb dX7_mix_10 rfl ?_
  refine lv_ladd hx hb dX7_mix_11 ?_
  refine put_mo_5 C hK X 0 rfl pl_X7_170 dX7_mix_12 (fun H locs X => ?_)
  have X : Wd D A s.heap [(o, moE g ((31 * hs) + v.toInt64) a b c_)] H locs := X
  have e_0_1 : (f_X7_mix_o_h hs v) = ((31 * hs) + v.toInt64) := by first | (rw [f_X7_mix_o_h]; done) | (rw [f_X7_mix_o_h]; rfl) | (simp only [f_X7_mix_o_h]; done)
  exact hret _ _ _ _ _ dX7_mix_15 X (by rw [e_0_1])
