/-- the segment with the same start, and how many start ahead of it -/
def sgS (n : F1) (st_ : Int32) : Nat → Int32
  | 0 => -1
  | i + 1 => if n (75 + 3 * i) = st_ then nI i else sgS n st_ i
def sgA (n : F1) (st_ : Int32) : Nat → Nat
  | 0 => 0
  | i + 1 => sgA n st_ i + (if st_ ≤ n (75 + 3 * i) then 0 else 1)
theorem sgA_le (n : F1) (st_ : Int32) : ∀ i, sgA n st_ i ≤ i
  | 0 => Nat.le_refl _
  | i + 1 => by have := sgA_le n st_ i; show sgA n st_ i + (if st_ ≤ n (75 + 3 * i) then 0 else 1) ≤ i + 1; split <;> omega
theorem sgA_lt (n : F1) (st_ : Int32) : ∀ i, ¬ sgS n st_ i = -1 → sgA n st_ i < i
  | 0, h => absurd rfl h
  | i + 1, h => by
    have h1 := sgA_le n st_ i
    show sgA n st_ i + (if st_ ≤ n (75 + 3 * i) then 0 else 1) < i + 1
    by_cases c : st_ ≤ n (75 + 3 * i)
    · rw [if_pos c]; omega
    · rw [if_neg c]
      have h2 : ¬ n (75 + 3 * i) = st_ := fun e => c (by rw [e]; exact Int32.le_refl _)
      have h3 : sgS n st_ (i + 1) = sgS n st_ i := if_neg h2
      have := sgA_lt n st_ i (by rw [← h3]; exact h)
      omega
theorem sgA_step (n : F1) (st_ : Int32) (i : Nat) : nI (sgA n st_ i) + (if st_ ≤ n (75 + 3 * i) then 0 else 1) = nI (sgA n st_ (i + 1)) := by
  show _ = nI (sgA n st_ i + (if st_ ≤ n (75 + 3 * i) then 0 else 1))
  split
  · show nI _ + nI 0 = _; rw [nI_add]
  · show nI _ + nI 1 = _; rw [nI_add]
def segOK (n : F1) (st_ lf rg : Int32) : Int32 := (if (f_X7_within st_ (n 1) 100000000) = 0 then 0 else (if (f_X7_isSurface lf) = 0 then 0 else (if (f_X7_isSurface rg) = 0 then 0 else 1)))
theorem nm1 {A : Nat} (h : A < 2 ^ 31) : (nI A - 1).toInt = (A : Int) - 1 := by
  rcases Nat.eq_zero_or_pos A with e | e
  · subst e; rfl
  · rw [sb_m1s e, nI_toInt (by omega)]; omega
theorem lt_m1 {A B : Nat} (hA : A < 2 ^ 31) (hB : B < 2 ^ 31) : nI A - 1 < nI B ↔ A ≤ B := by
  rw [Int32.lt_iff_toInt_lt, nm1 hA, nI_toInt hB]; omega
theorem m1_m1 {A : Nat} (h : 0 < A) : nI A - 1 + (-1) = nI (A - 1) - 1 := by
  rw [sb_m1s h]
  rw [show (-1 : Int32) = 0 - 1 by decide, Int32.sub_eq_add_neg 0 1, Int32.zero_add, ← Int32.sub_eq_add_neg]
theorem ad_i1 {A : Nat} (h : 0 < A) : 75 + (nI A - 1) = nI (74 + A) := by
  rw [sb_m1s h, show (75 : Int32) = nI 75 from rfl, nI_add]; congr 1; omega
theorem cpy_down {n : F1} {A B i : Nat} (hA : i < A) : upd (va_cpy n n (75 + (A - i)) (78 + (A - i)) i) (77 + (A - i)) (n (74 + (A - i))) = va_cpy n n (75 + (A - (i + 1))) (78 + (A - (i + 1))) (i + 1) := by
  funext q
  unfold upd va_cpy
  by_cases h : q = 77 + (A - i)
  · rw [if_pos h, if_pos (by omega)]; congr 1; omega
  · rw [if_neg h]
    by_cases h2 : 78 + (A - i) ≤ q ∧ q < 78 + (A - i) + i
    · rw [if_pos h2, if_pos (by omega)]; congr 1; omega
    · rw [if_neg h2, if_neg (by omega)]
theorem MOK_s {n : F1} {i : Nat} {v : Int32} (hi : 74 < i ∧ i < 111) (h : MOK n) : MOK (upd n i v) :=
  MOK_of h (pk_un (by omega)) (pk_un (by omega)) (pk_un (by omega)) (fun j hj => pk_un (by omega))
theorem MOK_74 {n : F1} {k : Nat} (hk : 1 ≤ k ∧ k ≤ 12) (h : MOK n) : MOK (upd n 74 (nI k)) := by
  refine ⟨by rw [pk_us, nI_toInt (by omega)]; omega, by rw [pk_un (by omega)]; exact h.2.1, by rw [pk_un (by omega)]; exact h.2.2.1, fun j hj => by rw [pk_un (by omega)]; exact h.2.2.2 j hj⟩
theorem MOK_sh {n : F1} {sp dp k : Nat} (h : MOK n) (h1 : 75 ≤ dp) (h2 : dp + k ≤ 111) : MOK (va_cpy n n sp dp k) :=
  MOK_of h (cpy_lo (by omega)) (cpy_hi (by omega)) (cpy_hi (by omega)) (fun j hj => cpy_lo (by omega))
theorem rd74 {n : F1} {a b c k : Nat} {x y z : Int32} (h : 74 < a ∧ 74 < b ∧ 74 < c) (e : n 74 = nI k) : (upd (upd (upd n a x) b y) c z) 74 = nI k := by
  rw [pk_un (by omega), pk_un (by omega), pk_un (by omega)]; exact e
def v_X7_addSegment_no1_1 (n : F1) (st_ : Int32) (lf : Int32) (rg : Int32) : Int32 := (if (f_X7_within st_ (n 1) 100000000) = 0 then 0 else (if (f_X7_isSurface lf) = 0 then 0 else (if (f_X7_isSurface rg) = 0 then 0 else 1)))
def v_X7_addSegment_no1_4 (n : F1) (st_ : Int32) (i : Nat) : Int32 := (if (n (75 + 3 * i)) = st_ then (nI i) else (sgS n st_ i))
def v_X7_addSegment_no1_6 (n : F1) (st_ : Int32) (i : Nat) : Int32 := (if st_ ≤ (n (75 + 3 * i)) then 0 else 1)
def f_X7_addSegment_no1_o (g : F1) : F1 := (f_X7_refused_o g 1)
set_option maxHeartbeats 4000000 in
set_option maxRecDepth 100000 in
theorem c_X7_addSegment_no1 (l : Launch) (D : va_G) (ty : Nat → ClassId) (o : Nat) (a : Nat) (b : Nat) (c_ : Nat) (g : F1) (hs : Int64) (n : F1) (st_ : Int32) (lf : Int32) (rg : Int32) (hM : MOK n) (hv : segOK n st_ lf rg = 0) : MC l D ty yX7_addSegment cX7_addSegment 8 (some .int) 2 [.ref o, .int st_, .int lf, .int rg] [(o, moE g hs a b c_), (a, arE ty 253 n)] (some (.int 0)) [(o, moE (f_X7_addSegment_no1_o g) hs a b c_), (a, arE ty 253 n)] := by
  refine mc_i (by decide +kernel) (Nat.le_of_ble_eq_true rfl) ?_
  intro p e s m args below meth c A Q ls C hK hA X hret hl
  have hx := C.1
  have hb := C.2.1
  have hl : lv_has ls 8 [(0, .ref o), (1, .int st_), (2, .int lf), (3, .int rg)] := hl
  have X : Wd D A s.heap [(o, moE g hs a b c_), (a, arE ty 253 n)] s.heap [] := X
  obtain ⟨hn, hs1, hs2⟩ := sN_eq hM
  have hah := sgA_le n st_ (sN n)
  refine lv_iload_n hx hb dX7_addSegment_0 rfl (lv_at hl 1 rfl) ?_
  refine lv_aload_n hx hb dX7_addSegment_1 rfl (lv_at hl 0 rfl) ?_
  refine get_mo_0 C hK X 0 rfl fl_X7_7 dX7_addSegment_2 ?_
  refine lv_iconst (v := 1) hx hb dX7_addSegment_5 (by decide) ?_
  refine s_ialN C hK X 1 1 rfl rfl (by decide) (by decide) dX7_addSegment_6 ?_
  refine lv_ldc hx hb C.2.2.2.1 (C.2.2.2.2 _ wk_X7_149) dX7_addSegment_7 ?_
  refine s_cS0i C hK hA X (c_X7_within l D ty st_ (n 1) 100000000) [] pk_n rfl sl_X7_within wm_X7_37 ⟨Nat.le_of_ble_eq_true rfl, Nat.le_of_ble_eq_true rfl⟩ ⟨Nat.zero_le _, Nat.zero_le _⟩ hl.1 rfl (Nat.le_of_ble_eq_true rfl) dX7_addSegment_9 (fun H locs X => ?_)
  have J34_2 : ∀ (x1 : Int32) (ls : Array Slot) (H : Heap) (locs : List Loc), x1 = (v_X7_addSegment_no1_1 n st_ lf rg) → lv_has ls 8 [(0, .ref o), (1, .int st_), (2, .int lf), (3, .int rg)] → Wd D A s.heap [(o, moE g hs a b c_), (a, arE ty 253 n)] H locs → W p l e (rmD 2) s m args below meth c H locs 0 0 Q (F0 m 34 ls [.int x1]) := by
    intro x1 ls H locs ex1 hl X
    replace ex1 := ex1.symm; subst ex1
    refine s_eqi (y := 0) (hv) ?_
    refine lv_istore (lv' := [(4, .int 0), (0, .ref o), (1, .int st_), (2, .int lf), (3, .int rg)]) hx hb dX7_addSegment_34 hl (by decide) rfl (fun ls hl => ?_)
    refine lv_iconst (v := (-1)) hx hb dX7_addSegment_36 (by decide) ?_
    refine lv_istore (lv' := [(5, .int (-1)), (4, .int 0), (0, .ref o), (1, .int st_), (2, .int lf), (3, .int rg)]) hx hb dX7_addSegment_37 hl (by decide) rfl (fun ls hl => ?_)
    refine lv_iconst (v := 0) hx hb dX7_addSegment_39 (by decide) ?_
    refine lv_istore (lv' := [(6, .int 0), (5, .int (-1)), (4, .int 0), (0, .ref o), (1, .int st_), (2, .int lf), (3, .int rg)]) hx hb dX7_addSegment_40 hl (by decide) rfl (fun ls hl => ?_)
    refine lv_iconst (v := 0) hx hb dX7_addSegment_42 (by decide) ?_
    refine lv_istore (lv' := [(7, .int 0), (6, .int 0), (5, .int (-1)), (4, .int 0), (0, .ref o), (1, .int st_), (2, .int lf), (3, .int rg)]) hx hb dX7_addSegment_43 hl (by decide) rfl (fun ls hl => ?_)
    have K3 : ∀ (y3_0 : Int32) (y3_1 : Int32) (y3_2 : Int32) (ls : Array Slot) (H : Heap) (locs : List Loc), y3_0 = (nI (sN n)) → y3_1 = (sgS n st_ (sN n)) → y3_2 = (nI (sgA n st_ (sN n))) → lv_has ls 8 [(7, .int y3_0), (6, .int y3_2), (5, .int y3_1), (4, .int 0), (0, .ref o), (1, .int st_), (2, .int lf), (3, .int rg)] → Wd D A s.heap [(o, moE g hs a b c_), (a, arE ty 253 n)] H locs → W p l e (rmD 2) s m args below meth c H locs 0 0 Q (F0 m 114 ls []) := by
      intro y3_0 y3_1 y3_2 ls H locs ey3_0 ey3_1 ey3_2 hl X
      replace ey3_0 := ey3_0.symm; subst ey3_0; replace ey3_1 := ey3_1.symm; subst ey3_1; replace ey3_2 := ey3_2.symm; subst ey3_2
      refine lv_aload_n hx hb dX7_addSegment_114 rfl (lv_at hl 4 rfl) ?_
      refine lv_iload hx hb dX7_addSegment_115 (lv_at hl 3 rfl) ?_
      refine lv_if_ne (tgt := 124) hx hb dX7_addSegment_117 (by decide) (fun c0 => absurd (by decide) c0) (fun _ => ?_)
      refine lv_iconst (v := 1) hx hb dX7_addSegment_120 (by decide) ?_
      refine lv_goto (tgt := 147) hx hb dX7_addSegment_121 (by decide) ?_
      refine s_cVi (ws' := [(o, moE (f_X7_refused_o g 1) hs a b c_), (a, arE ty 253 n)]) C hK hA X (c_X7_refused l D ty o a b c_ g hs 1) [0] (pk_c rfl pk_n) rfl (pk_c rfl pk_n) (em_t (em_f em_n)) rfl ml_X7_refused wm_X7_29 (q0 := 0) rfl rfl rfl ⟨Nat.le_of_ble_eq_true rfl, Nat.le_of_ble_eq_true rfl⟩ ⟨Nat.zero_le _, Nat.zero_le _⟩ hl.1 rfl (Nat.le_of_ble_eq_true rfl) dX7_addSegment_147 (fun H locs X => ?_)
      refine s_eqi (y := 1) (by decide) ?_
      refine lv_if_eq (tgt := 155) hx hb dX7_addSegment_150 (by decide) (fun c0 => absurd c0 (by decide)) (fun _ => ?_)
      refine lv_iconst (v := 0) hx hb dX7_addSegment_153 (by decide) ?_
      have e_0_0 : (f_X7_addSegment_no1_o g) = (f_X7_refused_o g 1) := by first | (rw [f_X7_addSegment_no1_o]; done) | (rw [f_X7_addSegment_no1_o]; rfl) | (simp only [f_X7_addSegment_no1_o]; done)
      exact hret _ _ _ _ _ _ dX7_addSegment_154 X (by rw [e_0_0]) rfl
    have L3 : ∀ (kf i : Nat) (y3_0 : Int32) (y3_1 : Int32) (y3_2 : Int32) (ls : Array Slot) (H : Heap) (locs : List Loc), (sN n) - i < kf → (i ≤ sN n) → y3_0 = (nI i) → y3_1 = (sgS n st_ i) → y3_2 = (nI (sgA n st_ i)) → lv_has ls 8 [(7, .int y3_0), (6, .int y3_2), (5, .int y3_1), (4, .int 0), (0, .ref o), (1, .int st_), (2, .int lf), (3, .int rg)] → Wd D A s.heap [(o, moE g hs a b c_), (a, arE ty 253 n)] H locs → W p l e (rmD 2) s m args below meth c H locs 0 0 Q (F0 m 45 ls []) := by
      intro kf
      induction kf with
      | zero => intro i y3_0 y3_1 y3_2 ls H locs hk; exact absurd hk (Nat.not_lt_zero _)
      | succ kf ih3 =>
        intro i y3_0 y3_1 y3_2 ls H locs hk hI ey3_0 ey3_1 ey3_2 hl X
        replace ey3_0 := ey3_0.symm; subst ey3_0; replace ey3_1 := ey3_1.symm; subst ey3_1; replace ey3_2 := ey3_2.symm; subst ey3_2
        refine lv_iload hx hb dX7_addSegment_45 (lv_at hl 0 rfl) ?_
        refine lv_aload_n hx hb dX7_addSegment_47 rfl (lv_at hl 4 rfl) ?_
        refine get_mo_0 C hK X 0 rfl fl_X7_7 dX7_addSegment_48 ?_
        refine lv_bipush (v := 74) hx hb dX7_addSegment_51 (by decide) ?_
        refine s_ialN C hK X 1 74 rfl rfl (by decide) (by decide) dX7_addSegment_53 ?_
        refine s_eqi (y := nI (sN n)) (hn) ?_
        refine lv_icmp_ge (tgt := 114) hx hb dX7_addSegment_54 (by decide) (fun c0_0 => ?_) (fun c0_0 => ?_)
        · have hE : i = sN n := eq_of_nIle (by omega) (by omega) hI c0_0
          exact K3 (nI i) (sgS n st_ i) (nI (sgA n st_ i)) _ _ _ (by rw [hE]) (by rw [hE]) (by rw [hE]) (lv_sub hl [0, 1, 2, 3, 4, 5, 6, 7] rfl) X
        · have h1 : i < sN n := lt_of_nnIle (by omega) (by omega) c0_0
          refine lv_aload_n hx hb dX7_addSegment_57 rfl (lv_at hl 4 rfl) ?_
          refine get_mo_0 C hK X 0 rfl fl_X7_7 dX7_addSegment_58 ?_
          refine lv_bipush (v := 75) hx hb dX7_addSegment_61 (by decide) ?_
          refine lv_iconst (v := 3) hx hb dX7_addSegment_63 (by decide) ?_
          refine lv_iload hx hb dX7_addSegment_64 (lv_at hl 0 rfl) ?_
          refine lv_imul hx hb dX7_addSegment_66 ?_
          refine lv_iadd hx hb dX7_addSegment_67 ?_
          refine s_eqi (y := nI (75 + 3 * i)) (lin 3 75 i) ?_
          refine s_ialN C hK X 1 (75 + 3 * i) rfl rfl (by omega) (by decide) dX7_addSegment_68 ?_
          refine lv_iload_n hx hb dX7_addSegment_69 rfl (lv_at hl 5 rfl) ?_
          have J80_5 : ∀ (x4 : Int32) (ls : Array Slot) (H : Heap) (locs : List Loc), x4 = (v_X7_addSegment_no1_4 n st_ i) → lv_has ls 8 [(7, .int (nI i)), (6, .int (nI (sgA n st_ i))), (5, .int (sgS n st_ i)), (4, .int 0), (0, .ref o), (1, .int st_), (2, .int lf), (3, .int rg)] → Wd D A s.heap [(o, moE g hs a b c_), (a, arE ty 253 n)] H locs → W p l e (rmD 2) s m args below meth c H locs 0 0 Q (F0 m 80 ls [.int x4]) := by
            intro x4 ls H locs ex4 hl X
            replace ex4 := ex4.symm; subst ex4
            refine s_eqi (y := sgS n st_ (i + 1)) (rfl) ?_
            refine lv_istore (lv' := [(5, .int (sgS n st_ (i + 1))), (7, .int (nI i)), (6, .int (nI (sgA n st_ i))), (4, .int 0), (0, .ref o), (1, .int st_), (2, .int lf), (3, .int rg)]) hx hb dX7_addSegment_80 hl (by decide) rfl (fun ls hl => ?_)
            refine lv_iload hx hb dX7_addSegment_82 (lv_at hl 2 rfl) ?_
            refine lv_aload_n hx hb dX7_addSegment_84 rfl (lv_at hl 4 rfl) ?_
            refine get_mo_0 C hK X 0 rfl fl_X7_7 dX7_addSegment_85 ?_
            refine lv_bipush (v := 75) hx hb dX7_addSegment_88 (by decide) ?_
            refine lv_iconst (v := 3) hx hb dX7_addSegment_90 (by decide) ?_
            refine lv_iload hx hb dX7_addSegment_91 (lv_at hl 1 rfl) ?_
            refine lv_imul hx hb dX7_addSegment_93 ?_
            refine lv_iadd hx hb dX7_addSegment_94 ?_
            refine s_eqi (y := nI (75 + 3 * i)) (lin 3 75 i) ?_
            refine s_ialN C hK X 1 (75 + 3 * i) rfl rfl (by omega) (by decide) dX7_addSegment_95 ?_
            refine lv_iload_n hx hb dX7_addSegment_96 rfl (lv_at hl 5 rfl) ?_
            have J105_7 : ∀ (x6 : Int32) (ls : Array Slot) (H : Heap) (locs : List Loc), x6 = (v_X7_addSegment_no1_6 n st_ i) → lv_has ls 8 [(5, .int (sgS n st_ (i + 1))), (7, .int (nI i)), (6, .int (nI (sgA n st_ i))), (4, .int 0), (0, .ref o), (1, .int st_), (2, .int lf), (3, .int rg)] → Wd D A s.heap [(o, moE g hs a b c_), (a, arE ty 253 n)] H locs → W p l e (rmD 2) s m args below meth c H locs 0 0 Q (F0 m 105 ls [.int x6, .int (nI (sgA n st_ i))]) := by
              intro x6 ls H locs ex6 hl X
              replace ex6 := ex6.symm; subst ex6
              refine lv_iadd hx hb dX7_addSegment_105 ?_
              refine s_eqi (y := nI (sgA n st_ (i + 1))) (sgA_step n st_ i) ?_
              refine lv_istore (lv' := [(6, .int (nI (sgA n st_ (i + 1)))), (5, .int (sgS n st_ (i + 1))), (7, .int (nI i)), (4, .int 0), (0, .ref o), (1, .int st_), (2, .int lf), (3, .int rg)]) hx hb dX7_addSegment_106 hl (by decide) rfl (fun ls hl => ?_)
              refine lv_iinc (v := ((nI i) + 1)) (lv' := [(7, .int ((nI i) + 1)), (6, .int (nI (sgA n st_ (i + 1)))), (5, .int (sgS n st_ (i + 1))), (4, .int 0), (0, .ref o), (1, .int st_), (2, .int lf), (3, .int rg)]) hx hb dX7_addSegment_108 hl (k := 2) rfl rfl (by decide) rfl (fun ls hl => ?_)
              refine lv_goto (tgt := 45) hx hb dX7_addSegment_111 (by decide) ?_
              have h1 : i < sN n := lt_of_nnIle (by omega) (by omega) c0_0
              exact ih3 (i + 1) ((nI i) + 1) (sgS n st_ (i + 1)) (nI (sgA n st_ (i + 1))) _ _ _ (by omega) (by omega) (nI_1 i) rfl rfl (lv_sub hl [0, 1, 2, 3, 4, 5, 6, 7] rfl) X
            refine lv_icmp_ge (tgt := 104) hx hb dX7_addSegment_97 (by decide) (fun c1_1 => ?_) (fun c1_1 => ?_)
            · refine lv_iconst (v := 0) hx hb dX7_addSegment_104 (by decide) ?_
              exact J105_7 0 _ _ _ (by first | (rw [v_X7_addSegment_no1_6, if_pos c1_1]; done) | (rw [v_X7_addSegment_no1_6, if_pos c1_1]; rfl) | (simp only [v_X7_addSegment_no1_6, if_pos c1_1]; done)) (lv_sub hl [0, 1, 2, 3, 4, 5, 6, 7] rfl) X
            · refine lv_iconst (v := 1) hx hb dX7_addSegment_100 (by decide) ?_
              refine lv_goto (tgt := 105) hx hb dX7_addSegment_101 (by decide) ?_
              exact J105_7 1 _ _ _ (by first | (rw [v_X7_addSegment_no1_6, if_neg c1_1]; done) | (rw [v_X7_addSegment_no1_6, if_neg c1_1]; rfl) | (simp only [v_X7_addSegment_no1_6, if_neg c1_1]; done)) (lv_sub hl [0, 1, 2, 3, 4, 5, 6, 7] rfl) X
          refine lv_icmp_ne (tgt := 78) hx hb dX7_addSegment_70 (by decide) (fun c1_1 => ?_) (fun c1_1 => ?_)
          · refine lv_iload hx hb dX7_addSegment_78 (lv_at hl 2 rfl) ?_
            exact J80_5 (sgS n st_ i) _ _ _ (by first | (rw [v_X7_addSegment_no1_4, if_neg c1_1]; done) | (rw [v_X7_addSegment_no1_4, if_neg c1_1]; rfl) | (simp only [v_X7_addSegment_no1_4, if_neg c1_1]; done)) (lv_sub hl [0, 1, 2, 3, 4, 5, 6, 7] rfl) X
          · refine lv_iload hx hb dX7_addSegment_73 (lv_at hl 0 rfl) ?_
            refine lv_goto (tgt := 80) hx hb dX7_addSegment_75 (by decide) ?_
            exact J80_5 (nI i) _ _ _ (by first | (rw [v_X7_addSegment_no1_4, if_pos c1_1]; done) | (rw [v_X7_addSegment_no1_4, if_pos c1_1]; rfl) | (simp only [v_X7_addSegment_no1_4, if_pos c1_1]; done)) (lv_sub hl [0, 1, 2, 3, 4, 5, 6, 7] rfl) X
    exact L3 ((sN n) + 1) 0 0 (-1) 0 _ _ _ (by omega) (Nat.zero_le _) rfl rfl rfl (lv_sub hl [0, 1, 2, 3, 4, 5, 6, 7] rfl) X
  refine lv_if_eq (tgt := 33) hx hb dX7_addSegment_12 (by decide) (fun c0_0 => ?_) (fun c0_0 => ?_)
  · refine lv_iconst (v := 0) hx hb dX7_addSegment_33 (by decide) ?_
    exact J34_2 0 _ _ _ (by first | (rw [v_X7_addSegment_no1_1, if_pos c0_0]; done) | (rw [v_X7_addSegment_no1_1, if_pos c0_0]; rfl) | (simp only [v_X7_addSegment_no1_1, if_pos c0_0]; done)) (lv_sub hl [0, 1, 2, 3] rfl) X
  · refine lv_iload_n hx hb dX7_addSegment_15 rfl (lv_at hl 2 rfl) ?_
    refine s_cS0i C hK hA X (c_X7_isSurface l D ty lf) [] pk_n rfl sl_X7_isSurface wm_X7_150 ⟨Nat.le_of_ble_eq_true rfl, Nat.le_of_ble_eq_true rfl⟩ ⟨Nat.zero_le _, Nat.zero_le _⟩ hl.1 rfl (Nat.le_of_ble_eq_true rfl) dX7_addSegment_16 (fun H locs X => ?_)
    refine lv_if_eq (tgt := 33) hx hb dX7_addSegment_19 (by decide) (fun c1_1 => ?_) (fun c1_1 => ?_)
    · refine lv_iconst (v := 0) hx hb dX7_addSegment_33 (by decide) ?_
      exact J34_2 0 _ _ _ (by first | (rw [v_X7_addSegment_no1_1, if_neg c0_0, if_pos c1_1]; done) | (rw [v_X7_addSegment_no1_1, if_neg c0_0, if_pos c1_1]; rfl) | (simp only [v_X7_addSegment_no1_1, if_neg c0_0, if_pos c1_1]; done)) (lv_sub hl [0, 1, 2, 3] rfl) X
    · refine lv_iload_n hx hb dX7_addSegment_22 rfl (lv_at hl 3 rfl) ?_
      refine s_cS0i C hK hA X (c_X7_isSurface l D ty rg) [] pk_n rfl sl_X7_isSurface wm_X7_150 ⟨Nat.le_of_ble_eq_true rfl, Nat.le_of_ble_eq_true rfl⟩ ⟨Nat.zero_le _, Nat.zero_le _⟩ hl.1 rfl (Nat.le_of_ble_eq_true rfl) dX7_addSegment_23 (fun H locs X => ?_)
      refine lv_if_eq (tgt := 33) hx hb dX7_addSegment_26 (by decide) (fun c2_2 => ?_) (fun c2_2 => ?_)
      · refine lv_iconst (v := 0) hx hb dX7_addSegment_33 (by decide) ?_
        exact J34_2 0 _ _ _ (by first | (rw [v_X7_addSegment_no1_1, if_neg c0_0, if_neg c1_1, if_pos c2_2]; done) | (rw [v_X7_addSegment_no1_1, if_neg c0_0, if_neg c1_1, if_pos c2_2]; rfl) | (simp only [v_X7_addSegment_no1_1, if_neg c0_0, if_neg c1_1, if_pos c2_2]; done)) (lv_sub hl [0, 1, 2, 3] rfl) X
      · refine lv_iconst (v := 1) hx hb dX7_addSegment_29 (by decide) ?_
        refine lv_goto (tgt := 34) hx hb dX7_addSegment_30 (by decide) ?_
        exact J34_2 1 _ _ _ (by first | (rw [v_X7_addSegment_no1_1, if_neg c0_0, if_neg c1_1, if_neg c2_2]; done) | (rw [v_X7_addSegment_no1_1, if_neg c0_0, if_neg c1_1, if_neg c2_2]; rfl) | (simp only [v_X7_addSegment_no1_1, if_neg c0_0, if_neg c1_1, if_neg c2_2]; done)) (lv_sub hl [0, 1, 2, 3] rfl) X
def v_X7_addSegment_no2_1 (n : F1) (st_ : Int32) (lf : Int32) (rg : Int32) : Int32 := (if (f_X7_within st_ (n 1) 100000000) = 0 then 0 else (if (f_X7_isSurface lf) = 0 then 0 else (if (f_X7_isSurface rg) = 0 then 0 else 1)))
def v_X7_addSegment_no2_4 (n : F1) (st_ : Int32) (i : Nat) : Int32 := (if (n (75 + 3 * i)) = st_ then (nI i) else (sgS n st_ i))
def v_X7_addSegment_no2_6 (n : F1) (st_ : Int32) (i : Nat) : Int32 := (if st_ ≤ (n (75 + 3 * i)) then 0 else 1)
def f_X7_addSegment_no2_o (g : F1) : F1 := (f_X7_refused_o g 2)
set_option maxHeartbeats 4000000 in
set_option maxRecDepth 100000 in
theorem c_X7_addSegment_no2 (l : Launch) (D : va_G) (ty : Nat → ClassId) (o : Nat) (a : Nat) (b : Nat) (c_ : Nat) (g : F1) (hs : Int64) (n : F1) (st_ : Int32) (lf : Int32) (rg : Int32) (hM : MOK n) (hv : segOK n st_ lf rg = 1) (hS : sgS n st_ (sN n) = -1) (h12 : n 74 = 12) : MC l D ty yX7_addSegment cX7_addSegment 8 (some .int) 2 [.ref o, .int st_, .int lf, .int rg] [(o, moE g hs a b c_), (a, arE ty 253 n)] (some (.int 0)) [(o, moE (f_X7_addSegment_no2_o g) hs a b c_), (a, arE ty 253 n)] := by
  refine mc_i (by decide +kernel) (Nat.le_of_ble_eq_true rfl) ?_
  intro p e s m args below meth c A Q ls C hK hA X hret hl
  have hx := C.1
  have hb := C.2.1
  have hl : lv_has ls 8 [(0, .ref o), (1, .int st_), (2, .int lf), (3, .int rg)] := hl
  have X : Wd D A s.heap [(o, moE g hs a b c_), (a, arE ty 253 n)] s.heap [] := X
  obtain ⟨hn, hs1, hs2⟩ := sN_eq hM
  have hah := sgA_le n st_ (sN n)
  refine lv_iload_n hx hb dX7_addSegment_0 rfl (lv_at hl 1 rfl) ?_
  refine lv_aload_n hx hb dX7_addSegment_1 rfl (lv_at hl 0 rfl) ?_
  refine get_mo_0 C hK X 0 rfl fl_X7_7 dX7_addSegment_2 ?_
  refine lv_iconst (v := 1) hx hb dX7_addSegment_5 (by decide) ?_
  refine s_ialN C hK X 1 1 rfl rfl (by decide) (by decide) dX7_addSegment_6 ?_
  refine lv_ldc hx hb C.2.2.2.1 (C.2.2.2.2 _ wk_X7_149) dX7_addSegment_7 ?_
  refine s_cS0i C hK hA X (c_X7_within l D ty st_ (n 1) 100000000) [] pk_n rfl sl_X7_within wm_X7_37 ⟨Nat.le_of_ble_eq_true rfl, Nat.le_of_ble_eq_true rfl⟩ ⟨Nat.zero_le _, Nat.zero_le _⟩ hl.1 rfl (Nat.le_of_ble_eq_true rfl) dX7_addSegment_9 (fun H locs X => ?_)
  have J34_2 : ∀ (x1 : Int32) (ls : Array Slot) (H : Heap) (locs : List Loc), x1 = (v_X7_addSegment_no2_1 n st_ lf rg) → lv_has ls 8 [(0, .ref o), (1, .int st_), (2, .int lf), (3, .int rg)] → Wd D A s.heap [(o, moE g hs a b c_), (a, arE ty 253 n)] H locs → W p l e (rmD 2) s m args below meth c H locs 0 0 Q (F0 m 34 ls [.int x1]) := by
    intro x1 ls H locs ex1 hl X
    replace ex1 := ex1.symm; subst ex1
    refine s_eqi (y := 1) (hv) ?_
    refine lv_istore (lv' := [(4, .int 1), (0, .ref o), (1, .int st_), (2, .int lf), (3, .int rg)]) hx hb dX7_addSegment_34 hl (by decide) rfl (fun ls hl => ?_)
    refine lv_iconst (v := (-1)) hx hb dX7_addSegment_36 (by decide) ?_
    refine lv_istore (lv' := [(5, .int (-1)), (4, .int 1), (0, .ref o), (1, .int st_), (2, .int lf), (3, .int rg)]) hx hb dX7_addSegment_37 hl (by decide) rfl (fun ls hl => ?_)
    refine lv_iconst (v := 0) hx hb dX7_addSegment_39 (by decide) ?_
    refine lv_istore (lv' := [(6, .int 0), (5, .int (-1)), (4, .int 1), (0, .ref o), (1, .int st_), (2, .int lf), (3, .int rg)]) hx hb dX7_addSegment_40 hl (by decide) rfl (fun ls hl => ?_)
    refine lv_iconst (v := 0) hx hb dX7_addSegment_42 (by decide) ?_
    refine lv_istore (lv' := [(7, .int 0), (6, .int 0), (5, .int (-1)), (4, .int 1), (0, .ref o), (1, .int st_), (2, .int lf), (3, .int rg)]) hx hb dX7_addSegment_43 hl (by decide) rfl (fun ls hl => ?_)
    have K3 : ∀ (y3_0 : Int32) (y3_1 : Int32) (y3_2 : Int32) (ls : Array Slot) (H : Heap) (locs : List Loc), y3_0 = (nI (sN n)) → y3_1 = (sgS n st_ (sN n)) → y3_2 = (nI (sgA n st_ (sN n))) → lv_has ls 8 [(7, .int y3_0), (6, .int y3_2), (5, .int y3_1), (4, .int 1), (0, .ref o), (1, .int st_), (2, .int lf), (3, .int rg)] → Wd D A s.heap [(o, moE g hs a b c_), (a, arE ty 253 n)] H locs → W p l e (rmD 2) s m args below meth c H locs 0 0 Q (F0 m 114 ls []) := by
      intro y3_0 y3_1 y3_2 ls H locs ey3_0 ey3_1 ey3_2 hl X
      replace ey3_0 := ey3_0.symm; subst ey3_0; replace ey3_1 := ey3_1.symm; subst ey3_1; replace ey3_2 := ey3_2.symm; subst ey3_2
      refine lv_aload_n hx hb dX7_addSegment_114 rfl (lv_at hl 4 rfl) ?_
      refine lv_iload hx hb dX7_addSegment_115 (lv_at hl 3 rfl) ?_
      refine lv_if_ne (tgt := 124) hx hb dX7_addSegment_117 (by decide) (fun _ => ?_) (fun c0 => absurd c0 (by decide))
      refine lv_iload hx hb dX7_addSegment_124 (lv_at hl 2 rfl) ?_
      refine s_eqi (y := (-1)) (hS) ?_
      refine lv_iconst (v := (-1)) hx hb dX7_addSegment_126 (by decide) ?_
      refine lv_icmp_ne (tgt := 146) hx hb dX7_addSegment_127 (by decide) (fun c0 => absurd (by decide) c0) (fun _ => ?_)
      refine lv_aload_n hx hb dX7_addSegment_130 rfl (lv_at hl 4 rfl) ?_
      refine get_mo_0 C hK X 0 rfl fl_X7_7 dX7_addSegment_131 ?_
      refine lv_bipush (v := 74) hx hb dX7_addSegment_134 (by decide) ?_
      refine s_ialN C hK X 1 74 rfl rfl (by decide) (by decide) dX7_addSegment_136 ?_
      refine s_eqi (y := 12) (h12) ?_
      refine lv_bipush (v := 12) hx hb dX7_addSegment_137 (by decide) ?_
      refine lv_icmp_ne (tgt := 146) hx hb dX7_addSegment_139 (by decide) (fun c0 => absurd (by decide) c0) (fun _ => ?_)
      refine lv_iconst (v := 2) hx hb dX7_addSegment_142 (by decide) ?_
      refine lv_goto (tgt := 147) hx hb dX7_addSegment_143 (by decide) ?_
      refine s_cVi (ws' := [(o, moE (f_X7_refused_o g 2) hs a b c_), (a, arE ty 253 n)]) C hK hA X (c_X7_refused l D ty o a b c_ g hs 2) [0] (pk_c rfl pk_n) rfl (pk_c rfl pk_n) (em_t (em_f em_n)) rfl ml_X7_refused wm_X7_29 (q0 := 0) rfl rfl rfl ⟨Nat.le_of_ble_eq_true rfl, Nat.le_of_ble_eq_true rfl⟩ ⟨Nat.zero_le _, Nat.zero_le _⟩ hl.1 rfl (Nat.le_of_ble_eq_true rfl) dX7_addSegment_147 (fun H locs X => ?_)
      refine s_eqi (y := 1) (by decide) ?_
      refine lv_if_eq (tgt := 155) hx hb dX7_addSegment_150 (by decide) (fun c0 => absurd c0 (by decide)) (fun _ => ?_)
      refine lv_iconst (v := 0) hx hb dX7_addSegment_153 (by decide) ?_
      have e_0_0 : (f_X7_addSegment_no2_o g) = (f_X7_refused_o g 2) := by first | (rw [f_X7_addSegment_no2_o]; done) | (rw [f_X7_addSegment_no2_o]; rfl) | (simp only [f_X7_addSegment_no2_o]; done)
      exact hret _ _ _ _ _ _ dX7_addSegment_154 X (by rw [e_0_0]) rfl
    have L3 : ∀ (kf i : Nat) (y3_0 : Int32) (y3_1 : Int32) (y3_2 : Int32) (ls : Array Slot) (H : Heap) (locs : List Loc), (sN n) - i < kf → (i ≤ sN n) → y3_0 = (nI i) → y3_1 = (sgS n st_ i) → y3_2 = (nI (sgA n st_ i)) → lv_has ls 8 [(7, .int y3_0), (6, .int y3_2), (5, .int y3_1), (4, .int 1), (0, .ref o), (1, .int st_), (2, .int lf), (3, .int rg)] → Wd D A s.heap [(o, moE g hs a b c_), (a, arE ty 253 n)] H locs → W p l e (rmD 2) s m args below meth c H locs 0 0 Q (F0 m 45 ls []) := by
      intro kf
      induction kf with
      | zero => intro i y3_0 y3_1 y3_2 ls H locs hk; exact absurd hk (Nat.not_lt_zero _)
      | succ kf ih3 =>
        intro i y3_0 y3_1 y3_2 ls H locs hk hI ey3_0 ey3_1 ey3_2 hl X
        replace ey3_0 := ey3_0.symm; subst ey3_0; replace ey3_1 := ey3_1.symm; subst ey3_1; replace ey3_2 := ey3_2.symm; subst ey3_2
        refine lv_iload hx hb dX7_addSegment_45 (lv_at hl 0 rfl) ?_
        refine lv_aload_n hx hb dX7_addSegment_47 rfl (lv_at hl 4 rfl) ?_
        refine get_mo_0 C hK X 0 rfl fl_X7_7 dX7_addSegment_48 ?_
        refine lv_bipush (v := 74) hx hb dX7_addSegment_51 (by decide) ?_
        refine s_ialN C hK X 1 74 rfl rfl (by decide) (by decide) dX7_addSegment_53 ?_
        refine s_eqi (y := nI (sN n)) (hn) ?_
        refine lv_icmp_ge (tgt := 114) hx hb dX7_addSegment_54 (by decide) (fun c0_0 => ?_) (fun c0_0 => ?_)
        · have hE : i = sN n := eq_of_nIle (by omega) (by omega) hI c0_0
          exact K3 (nI i) (sgS n st_ i) (nI (sgA n st_ i)) _ _ _ (by rw [hE]) (by rw [hE]) (by rw [hE]) (lv_sub hl [0, 1, 2, 3, 4, 5, 6, 7] rfl) X
        · have h1 : i < sN n := lt_of_nnIle (by omega) (by omega) c0_0
          refine lv_aload_n hx hb dX7_addSegment_57 rfl (lv_at hl 4 rfl) ?_
          refine get_mo_0 C hK X 0 rfl fl_X7_7 dX7_addSegment_58 ?_
          refine lv_bipush (v := 75) hx hb dX7_addSegment_61 (by decide) ?_
          refine lv_iconst (v := 3) hx hb dX7_addSegment_63 (by decide) ?_
          refine lv_iload hx hb dX7_addSegment_64 (lv_at hl 0 rfl) ?_
          refine lv_imul hx hb dX7_addSegment_66 ?_
          refine lv_iadd hx hb dX7_addSegment_67 ?_
          refine s_eqi (y := nI (75 + 3 * i)) (lin 3 75 i) ?_
          refine s_ialN C hK X 1 (75 + 3 * i) rfl rfl (by omega) (by decide) dX7_addSegment_68 ?_
          refine lv_iload_n hx hb dX7_addSegment_69 rfl (lv_at hl 5 rfl) ?_
          have J80_5 : ∀ (x4 : Int32) (ls : Array Slot) (H : Heap) (locs : List Loc), x4 = (v_X7_addSegment_no2_4 n st_ i) → lv_has ls 8 [(7, .int (nI i)), (6, .int (nI (sgA n st_ i))), (5, .int (sgS n st_ i)), (4, .int 1), (0, .ref o), (1, .int st_), (2, .int lf), (3, .int rg)] → Wd D A s.heap [(o, moE g hs a b c_), (a, arE ty 253 n)] H locs → W p l e (rmD 2) s m args below meth c H locs 0 0 Q (F0 m 80 ls [.int x4]) := by
            intro x4 ls H locs ex4 hl X
            replace ex4 := ex4.symm; subst ex4
            refine s_eqi (y := sgS n st_ (i + 1)) (rfl) ?_
            refine lv_istore (lv' := [(5, .int (sgS n st_ (i + 1))), (7, .int (nI i)), (6, .int (nI (sgA n st_ i))), (4, .int 1), (0, .ref o), (1, .int st_), (2, .int lf), (3, .int rg)]) hx hb dX7_addSegment_80 hl (by decide) rfl (fun ls hl => ?_)
            refine lv_iload hx hb dX7_addSegment_82 (lv_at hl 2 rfl) ?_
            refine lv_aload_n hx hb dX7_addSegment_84 rfl (lv_at hl 4 rfl) ?_
            refine get_mo_0 C hK X 0 rfl fl_X7_7 dX7_addSegment_85 ?_
            refine lv_bipush (v := 75) hx hb dX7_addSegment_88 (by decide) ?_
            refine lv_iconst (v := 3) hx hb dX7_addSegment_90 (by decide) ?_
            refine lv_iload hx hb dX7_addSegment_91 (lv_at hl 1 rfl) ?_
            refine lv_imul hx hb dX7_addSegment_93 ?_
            refine lv_iadd hx hb dX7_addSegment_94 ?_
            refine s_eqi (y := nI (75 + 3 * i)) (lin 3 75 i) ?_
            refine s_ialN C hK X 1 (75 + 3 * i) rfl rfl (by omega) (by decide) dX7_addSegment_95 ?_
            refine lv_iload_n hx hb dX7_addSegment_96 rfl (lv_at hl 5 rfl) ?_
            have J105_7 : ∀ (x6 : Int32) (ls : Array Slot) (H : Heap) (locs : List Loc), x6 = (v_X7_addSegment_no2_6 n st_ i) → lv_has ls 8 [(5, .int (sgS n st_ (i + 1))), (7, .int (nI i)), (6, .int (nI (sgA n st_ i))), (4, .int 1), (0, .ref o), (1, .int st_), (2, .int lf), (3, .int rg)] → Wd D A s.heap [(o, moE g hs a b c_), (a, arE ty 253 n)] H locs → W p l e (rmD 2) s m args below meth c H locs 0 0 Q (F0 m 105 ls [.int x6, .int (nI (sgA n st_ i))]) := by
              intro x6 ls H locs ex6 hl X
              replace ex6 := ex6.symm; subst ex6
              refine lv_iadd hx hb dX7_addSegment_105 ?_
              refine s_eqi (y := nI (sgA n st_ (i + 1))) (sgA_step n st_ i) ?_
              refine lv_istore (lv' := [(6, .int (nI (sgA n st_ (i + 1)))), (5, .int (sgS n st_ (i + 1))), (7, .int (nI i)), (4, .int 1), (0, .ref o), (1, .int st_), (2, .int lf), (3, .int rg)]) hx hb dX7_addSegment_106 hl (by decide) rfl (fun ls hl => ?_)
              refine lv_iinc (v := ((nI i) + 1)) (lv' := [(7, .int ((nI i) + 1)), (6, .int (nI (sgA n st_ (i + 1)))), (5, .int (sgS n st_ (i + 1))), (4, .int 1), (0, .ref o), (1, .int st_), (2, .int lf), (3, .int rg)]) hx hb dX7_addSegment_108 hl (k := 2) rfl rfl (by decide) rfl (fun ls hl => ?_)
              refine lv_goto (tgt := 45) hx hb dX7_addSegment_111 (by decide) ?_
              have h1 : i < sN n := lt_of_nnIle (by omega) (by omega) c0_0
              exact ih3 (i + 1) ((nI i) + 1) (sgS n st_ (i + 1)) (nI (sgA n st_ (i + 1))) _ _ _ (by omega) (by omega) (nI_1 i) rfl rfl (lv_sub hl [0, 1, 2, 3, 4, 5, 6, 7] rfl) X
            refine lv_icmp_ge (tgt := 104) hx hb dX7_addSegment_97 (by decide) (fun c1_1 => ?_) (fun c1_1 => ?_)
            · refine lv_iconst (v := 0) hx hb dX7_addSegment_104 (by decide) ?_
              exact J105_7 0 _ _ _ (by first | (rw [v_X7_addSegment_no2_6, if_pos c1_1]; done) | (rw [v_X7_addSegment_no2_6, if_pos c1_1]; rfl) | (simp only [v_X7_addSegment_no2_6, if_pos c1_1]; done)) (lv_sub hl [0, 1, 2, 3, 4, 5, 6, 7] rfl) X
            · refine lv_iconst (v := 1) hx hb dX7_addSegment_100 (by decide) ?_
              refine lv_goto (tgt := 105) hx hb dX7_addSegment_101 (by decide) ?_
              exact J105_7 1 _ _ _ (by first | (rw [v_X7_addSegment_no2_6, if_neg c1_1]; done) | (rw [v_X7_addSegment_no2_6, if_neg c1_1]; rfl) | (simp only [v_X7_addSegment_no2_6, if_neg c1_1]; done)) (lv_sub hl [0, 1, 2, 3, 4, 5, 6, 7] rfl) X
          refine lv_icmp_ne (tgt := 78) hx hb dX7_addSegment_70 (by decide) (fun c1_1 => ?_) (fun c1_1 => ?_)
          · refine lv_iload hx hb dX7_addSegment_78 (lv_at hl 2 rfl) ?_
            exact J80_5 (sgS n st_ i) _ _ _ (by first | (rw [v_X7_addSegment_no2_4, if_neg c1_1]; done) | (rw [v_X7_addSegment_no2_4, if_neg c1_1]; rfl) | (simp only [v_X7_addSegment_no2_4, if_neg c1_1]; done)) (lv_sub hl [0, 1, 2, 3, 4, 5, 6, 7] rfl) X
          · refine lv_iload hx hb dX7_addSegment_73 (lv_at hl 0 rfl) ?_
            refine lv_goto (tgt := 80) hx hb dX7_addSegment_75 (by decide) ?_
            exact J80_5 (nI i) _ _ _ (by first | (rw [v_X7_addSegment_no2_4, if_pos c1_1]; done) | (rw [v_X7_addSegment_no2_4, if_pos c1_1]; rfl) | (simp only [v_X7_addSegment_no2_4, if_pos c1_1]; done)) (lv_sub hl [0, 1, 2, 3, 4, 5, 6, 7] rfl) X
    exact L3 ((sN n) + 1) 0 0 (-1) 0 _ _ _ (by omega) (Nat.zero_le _) rfl rfl rfl (lv_sub hl [0, 1, 2, 3, 4, 5, 6, 7] rfl) X
  refine lv_if_eq (tgt := 33) hx hb dX7_addSegment_12 (by decide) (fun c0_0 => ?_) (fun c0_0 => ?_)
  · refine lv_iconst (v := 0) hx hb dX7_addSegment_33 (by decide) ?_
    exact J34_2 0 _ _ _ (by first | (rw [v_X7_addSegment_no2_1, if_pos c0_0]; done) | (rw [v_X7_addSegment_no2_1, if_pos c0_0]; rfl) | (simp only [v_X7_addSegment_no2_1, if_pos c0_0]; done)) (lv_sub hl [0, 1, 2, 3] rfl) X
  · refine lv_iload_n hx hb dX7_addSegment_15 rfl (lv_at hl 2 rfl) ?_
    refine s_cS0i C hK hA X (c_X7_isSurface l D ty lf) [] pk_n rfl sl_X7_isSurface wm_X7_150 ⟨Nat.le_of_ble_eq_true rfl, Nat.le_of_ble_eq_true rfl⟩ ⟨Nat.zero_le _, Nat.zero_le _⟩ hl.1 rfl (Nat.le_of_ble_eq_true rfl) dX7_addSegment_16 (fun H locs X => ?_)
    refine lv_if_eq (tgt := 33) hx hb dX7_addSegment_19 (by decide) (fun c1_1 => ?_) (fun c1_1 => ?_)
    · refine lv_iconst (v := 0) hx hb dX7_addSegment_33 (by decide) ?_
      exact J34_2 0 _ _ _ (by first | (rw [v_X7_addSegment_no2_1, if_neg c0_0, if_pos c1_1]; done) | (rw [v_X7_addSegment_no2_1, if_neg c0_0, if_pos c1_1]; rfl) | (simp only [v_X7_addSegment_no2_1, if_neg c0_0, if_pos c1_1]; done)) (lv_sub hl [0, 1, 2, 3] rfl) X
    · refine lv_iload_n hx hb dX7_addSegment_22 rfl (lv_at hl 3 rfl) ?_
      refine s_cS0i C hK hA X (c_X7_isSurface l D ty rg) [] pk_n rfl sl_X7_isSurface wm_X7_150 ⟨Nat.le_of_ble_eq_true rfl, Nat.le_of_ble_eq_true rfl⟩ ⟨Nat.zero_le _, Nat.zero_le _⟩ hl.1 rfl (Nat.le_of_ble_eq_true rfl) dX7_addSegment_23 (fun H locs X => ?_)
      refine lv_if_eq (tgt := 33) hx hb dX7_addSegment_26 (by decide) (fun c2_2 => ?_) (fun c2_2 => ?_)
      · refine lv_iconst (v := 0) hx hb dX7_addSegment_33 (by decide) ?_
        exact J34_2 0 _ _ _ (by first | (rw [v_X7_addSegment_no2_1, if_neg c0_0, if_neg c1_1, if_pos c2_2]; done) | (rw [v_X7_addSegment_no2_1, if_neg c0_0, if_neg c1_1, if_pos c2_2]; rfl) | (simp only [v_X7_addSegment_no2_1, if_neg c0_0, if_neg c1_1, if_pos c2_2]; done)) (lv_sub hl [0, 1, 2, 3] rfl) X
      · refine lv_iconst (v := 1) hx hb dX7_addSegment_29 (by decide) ?_
        refine lv_goto (tgt := 34) hx hb dX7_addSegment_30 (by decide) ?_
        exact J34_2 1 _ _ _ (by first | (rw [v_X7_addSegment_no2_1, if_neg c0_0, if_neg c1_1, if_neg c2_2]; done) | (rw [v_X7_addSegment_no2_1, if_neg c0_0, if_neg c1_1, if_neg c2_2]; rfl) | (simp only [v_X7_addSegment_no2_1, if_neg c0_0, if_neg c1_1, if_neg c2_2]; done)) (lv_sub hl [0, 1, 2, 3] rfl) X
def v_X7_addSegment_same_1 (n : F1) (st_ : Int32) (lf : Int32) (rg : Int32) : Int32 := (if (f_X7_within st_ (n 1) 100000000) = 0 then 0 else (if (f_X7_isSurface lf) = 0 then 0 else (if (f_X7_isSurface rg) = 0 then 0 else 1)))
def v_X7_addSegment_same_4 (n : F1) (st_ : Int32) (lf : Int32) (rg : Int32) : F1 := (upd (upd (upd n (75 + 3 * sgA n st_ (sN n)) st_) (75 + 3 * sgA n st_ (sN n) + 1) lf) (75 + 3 * sgA n st_ (sN n) + 2) rg)
def v_X7_addSegment_same_5 (n : F1) (st_ : Int32) (i : Nat) : Int32 := (if (n (75 + 3 * i)) = st_ then (nI i) else (sgS n st_ i))
def v_X7_addSegment_same_7 (n : F1) (st_ : Int32) (i : Nat) : Int32 := (if st_ ≤ (n (75 + 3 * i)) then 0 else 1)
def f_X7_addSegment_same_o (g : F1) (sv : Nat) : F1 := (f_X7_saves_o (f_X7_refused_o g 0) sv)
def f_X7_addSegment_same_a (n : F1) (st_ : Int32) (lf : Int32) (rg : Int32) : F1 := (v_X7_addSegment_same_4 n st_ lf rg)
def f_X7_addSegment_same_b (n : F1) (pa : F1) (sv : Nat) : F1 := (f_X7_saves_b n pa sv)
theorem same_ok {n : F1} {st_ lf rg : Int32} (hM : MOK n) (hS : ¬ sgS n st_ (sN n) = -1) : MOK (f_X7_addSegment_same_a n st_ lf rg) := by
  obtain ⟨hn, hs1, hs2⟩ := sN_eq hM
  have hal := sgA_lt n st_ (sN n) hS
  exact MOK_s (by omega) (MOK_s (by omega) (MOK_s (by omega) hM))
theorem ok_X7_addSegment_same_a (n : F1) (st_ : Int32) (lf : Int32) (rg : Int32) (hM : MOK n) (hS : ¬ sgS n st_ (sN n) = -1) : MOK (f_X7_addSegment_same_a n st_ lf rg) := same_ok hM hS
set_option maxHeartbeats 4000000 in
set_option maxRecDepth 100000 in
theorem c_X7_addSegment_same (l : Launch) (D : va_G) (ty : Nat → ClassId) (o : Nat) (a : Nat) (b : Nat) (c_ : Nat) (g : F1) (hs : Int64) (n : F1) (pa : F1) (sv : Nat) (st_ : Int32) (lf : Int32) (rg : Int32) (hs9 : g 0 = nI sv) (hsv : sv ≤ 3) (hM : MOK n) (hv : segOK n st_ lf rg = 1) (hS : ¬ sgS n st_ (sN n) = -1) : MC l D ty yX7_addSegment cX7_addSegment 8 (some .int) 2 [.ref o, .int st_, .int lf, .int rg] [(o, moE g hs a b c_), (a, arE ty 253 n), (b, arE ty 759 pa)] (some (.int (nI (sN n)))) [(o, moE (f_X7_addSegment_same_o g sv) hs a b c_), (a, arE ty 253 (f_X7_addSegment_same_a n st_ lf rg)), (b, arE ty 759 (f_X7_addSegment_same_b n pa sv))] := by
  refine mc_i (by decide +kernel) (Nat.le_of_ble_eq_true rfl) ?_
  intro p e s m args below meth c A Q ls C hK hA X hret hl
  have hx := C.1
  have hb := C.2.1
  have hl : lv_has ls 8 [(0, .ref o), (1, .int st_), (2, .int lf), (3, .int rg)] := hl
  have X : Wd D A s.heap [(o, moE g hs a b c_), (a, arE ty 253 n), (b, arE ty 759 pa)] s.heap [] := X
  obtain ⟨hn, hs1, hs2⟩ := sN_eq hM
  have hah := sgA_le n st_ (sN n)
  have hal := sgA_lt n st_ (sN n) hS
  refine lv_iload_n hx hb dX7_addSegment_0 rfl (lv_at hl 1 rfl) ?_
  refine lv_aload_n hx hb dX7_addSegment_1 rfl (lv_at hl 0 rfl) ?_
  refine get_mo_0 C hK X 0 rfl fl_X7_7 dX7_addSegment_2 ?_
  refine lv_iconst (v := 1) hx hb dX7_addSegment_5 (by decide) ?_
  refine s_ialN C hK X 1 1 rfl rfl (by decide) (by decide) dX7_addSegment_6 ?_
  refine lv_ldc hx hb C.2.2.2.1 (C.2.2.2.2 _ wk_X7_149) dX7_addSegment_7 ?_
  refine s_cS0i C hK hA X (c_X7_within l D ty st_ (n 1) 100000000) [] pk_n rfl sl_X7_within wm_X7_37 ⟨Nat.le_of_ble_eq_true rfl, Nat.le_of_ble_eq_true rfl⟩ ⟨Nat.zero_le _, Nat.zero_le _⟩ hl.1 rfl (Nat.le_of_ble_eq_true rfl) dX7_addSegment_9 (fun H locs X => ?_)
  have J34_2 : ∀ (x1 : Int32) (ls : Array Slot) (H : Heap) (locs : List Loc), x1 = (v_X7_addSegment_same_1 n st_ lf rg) → lv_has ls 8 [(0, .ref o), (1, .int st_), (2, .int lf), (3, .int rg)] → Wd D A s.heap [(o, moE g hs a b c_), (a, arE ty 253 n), (b, arE ty 759 pa)] H locs → W p l e (rmD 2) s m args below meth c H locs 0 0 Q (F0 m 34 ls [.int x1]) := by
    intro x1 ls H locs ex1 hl X
    replace ex1 := ex1.symm; subst ex1
    refine s_eqi (y := 1) (hv) ?_
    refine lv_istore (lv' := [(4, .int 1), (0, .ref o), (1, .int st_), (2, .int lf), (3, .int rg)]) hx hb dX7_addSegment_34 hl (by decide) rfl (fun ls hl => ?_)
    refine lv_iconst (v := (-1)) hx hb dX7_addSegment_36 (by decide) ?_
    refine lv_istore (lv' := [(5, .int (-1)), (4, .int 1), (0, .ref o), (1, .int st_), (2, .int lf), (3, .int rg)]) hx hb dX7_addSegment_37 hl (by decide) rfl (fun ls hl => ?_)
    refine lv_iconst (v := 0) hx hb dX7_addSegment_39 (by decide) ?_
    refine lv_istore (lv' := [(6, .int 0), (5, .int (-1)), (4, .int 1), (0, .ref o), (1, .int st_), (2, .int lf), (3, .int rg)]) hx hb dX7_addSegment_40 hl (by decide) rfl (fun ls hl => ?_)
    refine lv_iconst (v := 0) hx hb dX7_addSegment_42 (by decide) ?_
    refine lv_istore (lv' := [(7, .int 0), (6, .int 0), (5, .int (-1)), (4, .int 1), (0, .ref o), (1, .int st_), (2, .int lf), (3, .int rg)]) hx hb dX7_addSegment_43 hl (by decide) rfl (fun ls hl => ?_)
    have K3 : ∀ (y3_0 : Int32) (y3_1 : Int32) (y3_2 : Int32) (ls : Array Slot) (H : Heap) (locs : List Loc), y3_0 = (nI (sN n)) → y3_1 = (sgS n st_ (sN n)) → y3_2 = (nI (sgA n st_ (sN n))) → lv_has ls 8 [(7, .int y3_0), (6, .int y3_2), (5, .int y3_1), (4, .int 1), (0, .ref o), (1, .int st_), (2, .int lf), (3, .int rg)] → Wd D A s.heap [(o, moE g hs a b c_), (a, arE ty 253 n), (b, arE ty 759 pa)] H locs → W p l e (rmD 2) s m args below meth c H locs 0 0 Q (F0 m 114 ls []) := by
      intro y3_0 y3_1 y3_2 ls H locs ey3_0 ey3_1 ey3_2 hl X
      replace ey3_0 := ey3_0.symm; subst ey3_0; replace ey3_1 := ey3_1.symm; subst ey3_1; replace ey3_2 := ey3_2.symm; subst ey3_2
      refine lv_aload_n hx hb dX7_addSegment_114 rfl (lv_at hl 4 rfl) ?_
      refine lv_iload hx hb dX7_addSegment_115 (lv_at hl 3 rfl) ?_
      refine lv_if_ne (tgt := 124) hx hb dX7_addSegment_117 (by decide) (fun _ => ?_) (fun c0 => absurd c0 (by decide))
      refine lv_iload hx hb dX7_addSegment_124 (lv_at hl 2 rfl) ?_
      refine lv_iconst (v := (-1)) hx hb dX7_addSegment_126 (by decide) ?_
      refine lv_icmp_ne (tgt := 146) hx hb dX7_addSegment_127 (by decide) (fun _ => ?_) (fun c0 => absurd c0 hS)
      refine lv_iconst (v := 0) hx hb dX7_addSegment_146 (by decide) ?_
      refine s_cVi (ws' := [(o, moE (f_X7_refused_o g 0) hs a b c_), (a, arE ty 253 n), (b, arE ty 759 pa)]) C hK hA X (c_X7_refused l D ty o a b c_ g hs 0) [0] (pk_c rfl pk_n) rfl (pk_c rfl pk_n) (em_t (em_f (em_f em_n))) rfl ml_X7_refused wm_X7_29 (q0 := 0) rfl rfl rfl ⟨Nat.le_of_ble_eq_true rfl, Nat.le_of_ble_eq_true rfl⟩ ⟨Nat.zero_le _, Nat.zero_le _⟩ hl.1 rfl (Nat.le_of_ble_eq_true rfl) dX7_addSegment_147 (fun H locs X => ?_)
      refine s_eqi (y := 0) (by decide) ?_
      refine lv_if_eq (tgt := 155) hx hb dX7_addSegment_150 (by decide) (fun _ => ?_) (fun c0 => absurd (by decide) c0)
      refine lv_aload_n hx hb dX7_addSegment_155 rfl (lv_at hl 4 rfl) ?_
      refine s_cVv (ws' := [(o, moE (f_X7_saves_o (f_X7_refused_o g 0) sv) hs a b c_), (a, arE ty 253 n), (b, arE ty 759 (f_X7_saves_b n pa sv))]) C hK hA X (c_X7_saves l D ty o a b c_ (f_X7_refused_o g 0) hs n pa sv ((pk_un (by decide)).trans hs9) hsv) [0, 1, 2] (pk_c rfl (pk_c rfl (pk_c rfl pk_n))) rfl (pk_c rfl (pk_c rfl (pk_c rfl pk_n))) (em_t (em_t (em_t em_n))) rfl ml_X7_saves wm_X7_143 (q0 := 0) rfl rfl rfl ⟨Nat.le_of_ble_eq_true rfl, Nat.le_of_ble_eq_true rfl⟩ ⟨Nat.zero_le _, Nat.zero_le _⟩ hl.1 rfl (Nat.le_of_ble_eq_true rfl) dX7_addSegment_156 (fun H locs X => ?_)
      refine lv_iload hx hb dX7_addSegment_159 (lv_at hl 2 rfl) ?_
      refine lv_iconst (v := (-1)) hx hb dX7_addSegment_161 (by decide) ?_
      refine lv_icmp_ne (tgt := 226) hx hb dX7_addSegment_162 (by decide) (fun _ => ?_) (fun c0 => absurd c0 hS)
      refine lv_aload_n hx hb dX7_addSegment_226 rfl (lv_at hl 4 rfl) ?_
      refine get_mo_0 C hK X 0 rfl fl_X7_7 dX7_addSegment_227 ?_
      refine lv_bipush (v := 75) hx hb dX7_addSegment_230 (by decide) ?_
      refine lv_iconst (v := 3) hx hb dX7_addSegment_232 (by decide) ?_
      refine lv_iload hx hb dX7_addSegment_233 (lv_at hl 1 rfl) ?_
      refine lv_imul hx hb dX7_addSegment_235 ?_
      refine lv_iadd hx hb dX7_addSegment_236 ?_
      refine s_eqi (y := nI (75 + 3 * sgA n st_ (sN n))) (lin 3 75 _) ?_
      refine lv_iload_n hx hb dX7_addSegment_237 rfl (lv_at hl 5 rfl) ?_
      refine s_iasN C hK X 1 (75 + 3 * sgA n st_ (sN n)) rfl rfl (by omega) (by decide) dX7_addSegment_238 (fun H locs X => ?_)
      have X : Wd D A s.heap [(o, moE (f_X7_saves_o (f_X7_refused_o g 0) sv) hs a b c_), (a, arE ty 253 (upd n (75 + 3 * sgA n st_ (sN n)) st_)), (b, arE ty 759 (f_X7_saves_b n pa sv))] H locs := X
      refine lv_aload_n hx hb dX7_addSegment_239 rfl (lv_at hl 4 rfl) ?_
      refine get_mo_0 C hK X 0 rfl fl_X7_7 dX7_addSegment_240 ?_
      refine lv_bipush (v := 75) hx hb dX7_addSegment_243 (by decide) ?_
      refine lv_iconst (v := 3) hx hb dX7_addSegment_245 (by decide) ?_
      refine lv_iload hx hb dX7_addSegment_246 (lv_at hl 1 rfl) ?_
      refine lv_imul hx hb dX7_addSegment_248 ?_
      refine lv_iadd hx hb dX7_addSegment_249 ?_
      refine s_eqi (y := nI (75 + 3 * sgA n st_ (sN n))) (lin 3 75 _) ?_
      refine lv_iconst (v := 1) hx hb dX7_addSegment_250 (by decide) ?_
      refine lv_iadd hx hb dX7_addSegment_251 ?_
      refine s_eqi (y := nI (75 + 3 * sgA n st_ (sN n) + 1)) (nI_1 _) ?_
      refine lv_iload_n hx hb dX7_addSegment_252 rfl (lv_at hl 6 rfl) ?_
      refine s_iasN C hK X 1 (75 + 3 * sgA n st_ (sN n) + 1) rfl rfl (by omega) (by decide) dX7_addSegment_253 (fun H locs X => ?_)
      have X : Wd D A s.heap [(o, moE (f_X7_saves_o (f_X7_refused_o g 0) sv) hs a b c_), (a, arE ty 253 (upd (upd n (75 + 3 * sgA n st_ (sN n)) st_) (75 + 3 * sgA n st_ (sN n) + 1) lf)), (b, arE ty 759 (f_X7_saves_b n pa sv))] H locs := X
      refine lv_aload_n hx hb dX7_addSegment_254 rfl (lv_at hl 4 rfl) ?_
      refine get_mo_0 C hK X 0 rfl fl_X7_7 dX7_addSegment_255 ?_
      refine lv_bipush (v := 75) hx hb dX7_addSegment_258 (by decide) ?_
      refine lv_iconst (v := 3) hx hb dX7_addSegment_260 (by decide) ?_
      refine lv_iload hx hb dX7_addSegment_261 (lv_at hl 1 rfl) ?_
      refine lv_imul hx hb dX7_addSegment_263 ?_
      refine lv_iadd hx hb dX7_addSegment_264 ?_
      refine s_eqi (y := nI (75 + 3 * sgA n st_ (sN n))) (lin 3 75 _) ?_
      refine lv_iconst (v := 2) hx hb dX7_addSegment_265 (by decide) ?_
      refine lv_iadd hx hb dX7_addSegment_266 ?_
      refine s_eqi (y := nI (75 + 3 * sgA n st_ (sN n) + 2)) (nI_add _ 2) ?_
      refine lv_iload_n hx hb dX7_addSegment_267 rfl (lv_at hl 7 rfl) ?_
      refine s_iasN C hK X 1 (75 + 3 * sgA n st_ (sN n) + 2) rfl rfl (by omega) (by decide) dX7_addSegment_268 (fun H locs X => ?_)
      have X : Wd D A s.heap [(o, moE (f_X7_saves_o (f_X7_refused_o g 0) sv) hs a b c_), (a, arE ty 253 (v_X7_addSegment_same_4 n st_ lf rg)), (b, arE ty 759 (f_X7_saves_b n pa sv))] H locs := X
      refine lv_aload_n hx hb dX7_addSegment_269 rfl (lv_at hl 4 rfl) ?_
      refine get_mo_0 C hK X 0 rfl fl_X7_7 dX7_addSegment_270 ?_
      refine lv_bipush (v := 74) hx hb dX7_addSegment_273 (by decide) ?_
      refine s_ialN C hK X 1 74 rfl rfl (by decide) (by decide) dX7_addSegment_275 ?_
      refine s_eqi (y := nI (sN n)) (rd74 (by omega) hn) ?_
      have e_0_0 : (f_X7_addSegment_same_o g sv) = (f_X7_saves_o (f_X7_refused_o g 0) sv) := by first | (rw [f_X7_addSegment_same_o]; done) | (rw [f_X7_addSegment_same_o]; rfl) | (simp only [f_X7_addSegment_same_o]; done)
      have e_1_0 : (f_X7_addSegment_same_a n st_ lf rg) = (v_X7_addSegment_same_4 n st_ lf rg) := by first | (rw [f_X7_addSegment_same_a]; done) | (rw [f_X7_addSegment_same_a]; rfl) | (simp only [f_X7_addSegment_same_a]; done)
      have e_2_1 : (f_X7_addSegment_same_b n pa sv) = (f_X7_saves_b n pa sv) := by first | (rw [f_X7_addSegment_same_b]; done) | (rw [f_X7_addSegment_same_b]; rfl) | (simp only [f_X7_addSegment_same_b]; done)
      exact hret _ _ _ _ _ _ dX7_addSegment_276 X (by rw [e_0_0, e_1_0, e_2_1]) rfl
    have L3 : ∀ (kf i : Nat) (y3_0 : Int32) (y3_1 : Int32) (y3_2 : Int32) (ls : Array Slot) (H : Heap) (locs : List Loc), (sN n) - i < kf → (i ≤ sN n) → y3_0 = (nI i) → y3_1 = (sgS n st_ i) → y3_2 = (nI (sgA n st_ i)) → lv_has ls 8 [(7, .int y3_0), (6, .int y3_2), (5, .int y3_1), (4, .int 1), (0, .ref o), (1, .int st_), (2, .int lf), (3, .int rg)] → Wd D A s.heap [(o, moE g hs a b c_), (a, arE ty 253 n), (b, arE ty 759 pa)] H locs → W p l e (rmD 2) s m args below meth c H locs 0 0 Q (F0 m 45 ls []) := by
      intro kf
      induction kf with
      | zero => intro i y3_0 y3_1 y3_2 ls H locs hk; exact absurd hk (Nat.not_lt_zero _)
      | succ kf ih3 =>
        intro i y3_0 y3_1 y3_2 ls H locs hk hI ey3_0 ey3_1 ey3_2 hl X
        replace ey3_0 := ey3_0.symm; subst ey3_0; replace ey3_1 := ey3_1.symm; subst ey3_1; replace ey3_2 := ey3_2.symm; subst ey3_2
        refine lv_iload hx hb dX7_addSegment_45 (lv_at hl 0 rfl) ?_
        refine lv_aload_n hx hb dX7_addSegment_47 rfl (lv_at hl 4 rfl) ?_
        refine get_mo_0 C hK X 0 rfl fl_X7_7 dX7_addSegment_48 ?_
        refine lv_bipush (v := 74) hx hb dX7_addSegment_51 (by decide) ?_
        refine s_ialN C hK X 1 74 rfl rfl (by decide) (by decide) dX7_addSegment_53 ?_
        refine s_eqi (y := nI (sN n)) (hn) ?_
        refine lv_icmp_ge (tgt := 114) hx hb dX7_addSegment_54 (by decide) (fun c0_0 => ?_) (fun c0_0 => ?_)
        · have hE : i = sN n := eq_of_nIle (by omega) (by omega) hI c0_0
          exact K3 (nI i) (sgS n st_ i) (nI (sgA n st_ i)) _ _ _ (by rw [hE]) (by rw [hE]) (by rw [hE]) (lv_sub hl [0, 1, 2, 3, 4, 5, 6, 7] rfl) X
        · have h1 : i < sN n := lt_of_nnIle (by omega) (by omega) c0_0
          refine lv_aload_n hx hb dX7_addSegment_57 rfl (lv_at hl 4 rfl) ?_
          refine get_mo_0 C hK X 0 rfl fl_X7_7 dX7_addSegment_58 ?_
          refine lv_bipush (v := 75) hx hb dX7_addSegment_61 (by decide) ?_
          refine lv_iconst (v := 3) hx hb dX7_addSegment_63 (by decide) ?_
          refine lv_iload hx hb dX7_addSegment_64 (lv_at hl 0 rfl) ?_
          refine lv_imul hx hb dX7_addSegment_66 ?_
          refine lv_iadd hx hb dX7_addSegment_67 ?_
          refine s_eqi (y := nI (75 + 3 * i)) (lin 3 75 i) ?_
          refine s_ialN C hK X 1 (75 + 3 * i) rfl rfl (by omega) (by decide) dX7_addSegment_68 ?_
          refine lv_iload_n hx hb dX7_addSegment_69 rfl (lv_at hl 5 rfl) ?_
          have J80_6 : ∀ (x5 : Int32) (ls : Array Slot) (H : Heap) (locs : List Loc), x5 = (v_X7_addSegment_same_5 n st_ i) → lv_has ls 8 [(7, .int (nI i)), (6, .int (nI (sgA n st_ i))), (5, .int (sgS n st_ i)), (4, .int 1), (0, .ref o), (1, .int st_), (2, .int lf), (3, .int rg)] → Wd D A s.heap [(o, moE g hs a b c_), (a, arE ty 253 n), (b, arE ty 759 pa)] H locs → W p l e (rmD 2) s m args below meth c H locs 0 0 Q (F0 m 80 ls [.int x5]) := by
            intro x5 ls H locs ex5 hl X
            replace ex5 := ex5.symm; subst ex5
            refine s_eqi (y := sgS n st_ (i + 1)) (rfl) ?_
            refine lv_istore (lv' := [(5, .int (sgS n st_ (i + 1))), (7, .int (nI i)), (6, .int (nI (sgA n st_ i))), (4, .int 1), (0, .ref o), (1, .int st_), (2, .int lf), (3, .int rg)]) hx hb dX7_addSegment_80 hl (by decide) rfl (fun ls hl => ?_)
            refine lv_iload hx hb dX7_addSegment_82 (lv_at hl 2 rfl) ?_
            refine lv_aload_n hx hb dX7_addSegment_84 rfl (lv_at hl 4 rfl) ?_
            refine get_mo_0 C hK X 0 rfl fl_X7_7 dX7_addSegment_85 ?_
            refine lv_bipush (v := 75) hx hb dX7_addSegment_88 (by decide) ?_
            refine lv_iconst (v := 3) hx hb dX7_addSegment_90 (by decide) ?_
            refine lv_iload hx hb dX7_addSegment_91 (lv_at hl 1 rfl) ?_
            refine lv_imul hx hb dX7_addSegment_93 ?_
            refine lv_iadd hx hb dX7_addSegment_94 ?_
            refine s_eqi (y := nI (75 + 3 * i)) (lin 3 75 i) ?_
            refine s_ialN C hK X 1 (75 + 3 * i) rfl rfl (by omega) (by decide) dX7_addSegment_95 ?_
            refine lv_iload_n hx hb dX7_addSegment_96 rfl (lv_at hl 5 rfl) ?_
            have J105_8 : ∀ (x7 : Int32) (ls : Array Slot) (H : Heap) (locs : List Loc), x7 = (v_X7_addSegment_same_7 n st_ i) → lv_has ls 8 [(5, .int (sgS n st_ (i + 1))), (7, .int (nI i)), (6, .int (nI (sgA n st_ i))), (4, .int 1), (0, .ref o), (1, .int st_), (2, .int lf), (3, .int rg)] → Wd D A s.heap [(o, moE g hs a b c_), (a, arE ty 253 n), (b, arE ty 759 pa)] H locs → W p l e (rmD 2) s m args below meth c H locs 0 0 Q (F0 m 105 ls [.int x7, .int (nI (sgA n st_ i))]) := by
              intro x7 ls H locs ex7 hl X
              replace ex7 := ex7.symm; subst ex7
              refine lv_iadd hx hb dX7_addSegment_105 ?_
              refine s_eqi (y := nI (sgA n st_ (i + 1))) (sgA_step n st_ i) ?_
              refine lv_istore (lv' := [(6, .int (nI (sgA n st_ (i + 1)))), (5, .int (sgS n st_ (i + 1))), (7, .int (nI i)), (4, .int 1), (0, .ref o), (1, .int st_), (2, .int lf), (3, .int rg)]) hx hb dX7_addSegment_106 hl (by decide) rfl (fun ls hl => ?_)
              refine lv_iinc (v := ((nI i) + 1)) (lv' := [(7, .int ((nI i) + 1)), (6, .int (nI (sgA n st_ (i + 1)))), (5, .int (sgS n st_ (i + 1))), (4, .int 1), (0, .ref o), (1, .int st_), (2, .int lf), (3, .int rg)]) hx hb dX7_addSegment_108 hl (k := 2) rfl rfl (by decide) rfl (fun ls hl => ?_)
              refine lv_goto (tgt := 45) hx hb dX7_addSegment_111 (by decide) ?_
              have h1 : i < sN n := lt_of_nnIle (by omega) (by omega) c0_0
              exact ih3 (i + 1) ((nI i) + 1) (sgS n st_ (i + 1)) (nI (sgA n st_ (i + 1))) _ _ _ (by omega) (by omega) (nI_1 i) rfl rfl (lv_sub hl [0, 1, 2, 3, 4, 5, 6, 7] rfl) X
            refine lv_icmp_ge (tgt := 104) hx hb dX7_addSegment_97 (by decide) (fun c1_1 => ?_) (fun c1_1 => ?_)
            · refine lv_iconst (v := 0) hx hb dX7_addSegment_104 (by decide) ?_
              exact J105_8 0 _ _ _ (by first | (rw [v_X7_addSegment_same_7, if_pos c1_1]; done) | (rw [v_X7_addSegment_same_7, if_pos c1_1]; rfl) | (simp only [v_X7_addSegment_same_7, if_pos c1_1]; done)) (lv_sub hl [0, 1, 2, 3, 4, 5, 6, 7] rfl) X
            · refine lv_iconst (v := 1) hx hb dX7_addSegment_100 (by decide) ?_
              refine lv_goto (tgt := 105) hx hb dX7_addSegment_101 (by decide) ?_
              exact J105_8 1 _ _ _ (by first | (rw [v_X7_addSegment_same_7, if_neg c1_1]; done) | (rw [v_X7_addSegment_same_7, if_neg c1_1]; rfl) | (simp only [v_X7_addSegment_same_7, if_neg c1_1]; done)) (lv_sub hl [0, 1, 2, 3, 4, 5, 6, 7] rfl) X
          refine lv_icmp_ne (tgt := 78) hx hb dX7_addSegment_70 (by decide) (fun c1_1 => ?_) (fun c1_1 => ?_)
          · refine lv_iload hx hb dX7_addSegment_78 (lv_at hl 2 rfl) ?_
            exact J80_6 (sgS n st_ i) _ _ _ (by first | (rw [v_X7_addSegment_same_5, if_neg c1_1]; done) | (rw [v_X7_addSegment_same_5, if_neg c1_1]; rfl) | (simp only [v_X7_addSegment_same_5, if_neg c1_1]; done)) (lv_sub hl [0, 1, 2, 3, 4, 5, 6, 7] rfl) X
          · refine lv_iload hx hb dX7_addSegment_73 (lv_at hl 0 rfl) ?_
            refine lv_goto (tgt := 80) hx hb dX7_addSegment_75 (by decide) ?_
            exact J80_6 (nI i) _ _ _ (by first | (rw [v_X7_addSegment_same_5, if_pos c1_1]; done) | (rw [v_X7_addSegment_same_5, if_pos c1_1]; rfl) | (simp only [v_X7_addSegment_same_5, if_pos c1_1]; done)) (lv_sub hl [0, 1, 2, 3, 4, 5, 6, 7] rfl) X
    exact L3 ((sN n) + 1) 0 0 (-1) 0 _ _ _ (by omega) (Nat.zero_le _) rfl rfl rfl (lv_sub hl [0, 1, 2, 3, 4, 5, 6, 7] rfl) X
  refine lv_if_eq (tgt := 33) hx hb dX7_addSegment_12 (by decide) (fun c0_0 => ?_) (fun c0_0 => ?_)
  · refine lv_iconst (v := 0) hx hb dX7_addSegment_33 (by decide) ?_
    exact J34_2 0 _ _ _ (by first | (rw [v_X7_addSegment_same_1, if_pos c0_0]; done) | (rw [v_X7_addSegment_same_1, if_pos c0_0]; rfl) | (simp only [v_X7_addSegment_same_1, if_pos c0_0]; done)) (lv_sub hl [0, 1, 2, 3] rfl) X
  · refine lv_iload_n hx hb dX7_addSegment_15 rfl (lv_at hl 2 rfl) ?_
    refine s_cS0i C hK hA X (c_X7_isSurface l D ty lf) [] pk_n rfl sl_X7_isSurface wm_X7_150 ⟨Nat.le_of_ble_eq_true rfl, Nat.le_of_ble_eq_true rfl⟩ ⟨Nat.zero_le _, Nat.zero_le _⟩ hl.1 rfl (Nat.le_of_ble_eq_true rfl) dX7_addSegment_16 (fun H locs X => ?_)
    refine lv_if_eq (tgt := 33) hx hb dX7_addSegment_19 (by decide) (fun c1_1 => ?_) (fun c1_1 => ?_)
    · refine lv_iconst (v := 0) hx hb dX7_addSegment_33 (by decide) ?_
      exact J34_2 0 _ _ _ (by first | (rw [v_X7_addSegment_same_1, if_neg c0_0, if_pos c1_1]; done) | (rw [v_X7_addSegment_same_1, if_neg c0_0, if_pos c1_1]; rfl) | (simp only [v_X7_addSegment_same_1, if_neg c0_0, if_pos c1_1]; done)) (lv_sub hl [0, 1, 2, 3] rfl) X
    · refine lv_iload_n hx hb dX7_addSegment_22 rfl (lv_at hl 3 rfl) ?_
      refine s_cS0i C hK hA X (c_X7_isSurface l D ty rg) [] pk_n rfl sl_X7_isSurface wm_X7_150 ⟨Nat.le_of_ble_eq_true rfl, Nat.le_of_ble_eq_true rfl⟩ ⟨Nat.zero_le _, Nat.zero_le _⟩ hl.1 rfl (Nat.le_of_ble_eq_true rfl) dX7_addSegment_23 (fun H locs X => ?_)
      refine lv_if_eq (tgt := 33) hx hb dX7_addSegment_26 (by decide) (fun c2_2 => ?_) (fun c2_2 => ?_)
      · refine lv_iconst (v := 0) hx hb dX7_addSegment_33 (by decide) ?_
        exact J34_2 0 _ _ _ (by first | (rw [v_X7_addSegment_same_1, if_neg c0_0, if_neg c1_1, if_pos c2_2]; done) | (rw [v_X7_addSegment_same_1, if_neg c0_0, if_neg c1_1, if_pos c2_2]; rfl) | (simp only [v_X7_addSegment_same_1, if_neg c0_0, if_neg c1_1, if_pos c2_2]; done)) (lv_sub hl [0, 1, 2, 3] rfl) X
      · refine lv_iconst (v := 1) hx hb dX7_addSegment_29 (by decide) ?_
        refine lv_goto (tgt := 34) hx hb dX7_addSegment_30 (by decide) ?_
        exact J34_2 1 _ _ _ (by first | (rw [v_X7_addSegment_same_1, if_neg c0_0, if_neg c1_1, if_neg c2_2]; done) | (rw [v_X7_addSegment_same_1, if_neg c0_0, if_neg c1_1, if_neg c2_2]; rfl) | (simp only [v_X7_addSegment_same_1, if_neg c0_0, if_neg c1_1, if_neg c2_2]; done)) (lv_sub hl [0, 1, 2, 3] rfl) X
theorem sN_ne {n : F1} (hM : MOK n) (h : ¬ n 74 = 12) : sN n ≤ 11 := by
  obtain ⟨hn, hs1, hs2⟩ := sN_eq hM
  rcases Nat.lt_or_ge (sN n) 12 with q | q
  · omega
  · exact absurd (by rw [hn, show sN n = 12 by omega]; rfl) h
def v_X7_addSegment_new_1 (n : F1) (st_ : Int32) (lf : Int32) (rg : Int32) : Int32 := (if (f_X7_within st_ (n 1) 100000000) = 0 then 0 else (if (f_X7_isSurface lf) = 0 then 0 else (if (f_X7_isSurface rg) = 0 then 0 else 1)))
def v_X7_addSegment_new_5 (n : F1) (st_ : Int32) : F1 := (upd (va_cpy n n (75 + (3 * sN n - (3 * (sN n - sgA n st_ (sN n))))) (78 + (3 * sN n - (3 * (sN n - sgA n st_ (sN n))))) (3 * (sN n - sgA n st_ (sN n)))) 74 (nI (sN n + 1)))
def v_X7_addSegment_new_6 (n : F1) (st_ : Int32) (lf : Int32) : F1 := (upd (upd (v_X7_addSegment_new_5 n st_) (75 + 3 * sgA n st_ (sN n)) st_) (75 + 3 * sgA n st_ (sN n) + 1) lf)
def v_X7_addSegment_new_7 (n : F1) (i2 : Nat) : F1 := (upd (va_cpy n n (75 + (3 * sN n - i2)) (78 + (3 * sN n - i2)) i2) (77 + (3 * sN n - i2)) (n (74 + (3 * sN n - i2))))
def v_X7_addSegment_new_8 (n : F1) (st_ : Int32) (i : Nat) : Int32 := (if (n (75 + 3 * i)) = st_ then (nI i) else (sgS n st_ i))
def v_X7_addSegment_new_10 (n : F1) (st_ : Int32) (i : Nat) : Int32 := (if st_ ≤ (n (75 + 3 * i)) then 0 else 1)
def f_X7_addSegment_new_o (g : F1) (sv : Nat) : F1 := (f_X7_saves_o (f_X7_refused_o g 0) sv)
def f_X7_addSegment_new_a (n : F1) (st_ : Int32) (lf : Int32) (rg : Int32) : F1 := (upd (v_X7_addSegment_new_6 n st_ lf) (75 + 3 * sgA n st_ (sN n) + 2) rg)
def f_X7_addSegment_new_b (n : F1) (pa : F1) (sv : Nat) : F1 := (f_X7_saves_b n pa sv)
theorem new_ok {n : F1} {st_ lf rg : Int32} (hM : MOK n) (h12 : ¬ n 74 = 12) : MOK (f_X7_addSegment_new_a n st_ lf rg) := by
  obtain ⟨hn, hs1, hs2⟩ := sN_eq hM
  have h11 := sN_ne hM h12
  have hah := sgA_le n st_ (sN n)
  exact MOK_s (by omega) (MOK_s (by omega) (MOK_s (by omega) (MOK_74 (by omega) (MOK_sh hM (by omega) (by omega)))))
theorem ok_X7_addSegment_new_a (n : F1) (st_ : Int32) (lf : Int32) (rg : Int32) (hM : MOK n) (h12 : ¬ n 74 = 12) : MOK (f_X7_addSegment_new_a n st_ lf rg) := new_ok hM h12
set_option maxHeartbeats 4000000 in
set_option maxRecDepth 100000 in
theorem c_X7_addSegment_new (l : Launch) (D : va_G) (ty : Nat → ClassId) (o : Nat) (a : Nat) (b : Nat) (c_ : Nat) (g : F1) (hs : Int64) (n : F1) (pa : F1) (sv : Nat) (st_ : Int32) (lf : Int32) (rg : Int32) (hs9 : g 0 = nI sv) (hsv : sv ≤ 3) (hM : MOK n) (hv : segOK n st_ lf rg = 1) (hS : sgS n st_ (sN n) = -1) (h12 : ¬ n 74 = 12) : MC l D ty yX7_addSegment cX7_addSegment 8 (some .int) 2 [.ref o, .int st_, .int lf, .int rg] [(o, moE g hs a b c_), (a, arE ty 253 n), (b, arE ty 759 pa)] (some (.int (nI (sN n + 1)))) [(o, moE (f_X7_addSegment_new_o g sv) hs a b c_), (a, arE ty 253 (f_X7_addSegment_new_a n st_ lf rg)), (b, arE ty 759 (f_X7_addSegment_new_b n pa sv))] := by
  refine mc_i (by decide +kernel) (Nat.le_of_ble_eq_true rfl) ?_
  intro p e s m args below meth c A Q ls C hK hA X hret hl
  have hx := C.1
  have hb := C.2.1
  have hl : lv_has ls 8 [(0, .ref o), (1, .int st_), (2, .int lf), (3, .int rg)] := hl
  have X : Wd D A s.heap [(o, moE g hs a b c_), (a, arE ty 253 n), (b, arE ty 759 pa)] s.heap [] := X
  obtain ⟨hn, hs1, hs2⟩ := sN_eq hM
  have hah := sgA_le n st_ (sN n)
  have h11 := sN_ne hM h12
  refine lv_iload_n hx hb dX7_addSegment_0 rfl (lv_at hl 1 rfl) ?_
  refine lv_aload_n hx hb dX7_addSegment_1 rfl (lv_at hl 0 rfl) ?_
  refine get_mo_0 C hK X 0 rfl fl_X7_7 dX7_addSegment_2 ?_
  refine lv_iconst (v := 1) hx hb dX7_addSegment_5 (by decide) ?_
  refine s_ialN C hK X 1 1 rfl rfl (by decide) (by decide) dX7_addSegment_6 ?_
  refine lv_ldc hx hb C.2.2.2.1 (C.2.2.2.2 _ wk_X7_149) dX7_addSegment_7 ?_
  refine s_cS0i C hK hA X (c_X7_within l D ty st_ (n 1) 100000000) [] pk_n rfl sl_X7_within wm_X7_37 ⟨Nat.le_of_ble_eq_true rfl, Nat.le_of_ble_eq_true rfl⟩ ⟨Nat.zero_le _, Nat.zero_le _⟩ hl.1 rfl (Nat.le_of_ble_eq_true rfl) dX7_addSegment_9 (fun H locs X => ?_)
  have J34_2 : ∀ (x1 : Int32) (ls : Array Slot) (H : Heap) (locs : List Loc), x1 = (v_X7_addSegment_new_1 n st_ lf rg) → lv_has ls 8 [(0, .ref o), (1, .int st_), (2, .int lf), (3, .int rg)] → Wd D A s.heap [(o, moE g hs a b c_), (a, arE ty 253 n), (b, arE ty 759 pa)] H locs → W p l e (rmD 2) s m args below meth c H locs 0 0 Q (F0 m 34 ls [.int x1]) := by
    intro x1 ls H locs ex1 hl X
    replace ex1 := ex1.symm; subst ex1
    refine s_eqi (y := 1) (hv) ?_
    refine lv_istore (lv' := [(4, .int 1), (0, .ref o), (1, .int st_), (2, .int lf), (3, .int rg)]) hx hb dX7_addSegment_34 hl (by decide) rfl (fun ls hl => ?_)
    refine lv_iconst (v := (-1)) hx hb dX7_addSegment_36 (by decide) ?_
    refine lv_istore (lv' := [(5, .int (-1)), (4, .int 1), (0, .ref o), (1, .int st_), (2, .int lf), (3, .int rg)]) hx hb dX7_addSegment_37 hl (by decide) rfl (fun ls hl => ?_)
    refine lv_iconst (v := 0) hx hb dX7_addSegment_39 (by decide) ?_
    refine lv_istore (lv' := [(6, .int 0), (5, .int (-1)), (4, .int 1), (0, .ref o), (1, .int st_), (2, .int lf), (3, .int rg)]) hx hb dX7_addSegment_40 hl (by decide) rfl (fun ls hl => ?_)
    refine lv_iconst (v := 0) hx hb dX7_addSegment_42 (by decide) ?_
    refine lv_istore (lv' := [(7, .int 0), (6, .int 0), (5, .int (-1)), (4, .int 1), (0, .ref o), (1, .int st_), (2, .int lf), (3, .int rg)]) hx hb dX7_addSegment_43 hl (by decide) rfl (fun ls hl => ?_)
    have K3 : ∀ (y3_0 : Int32) (y3_1 : Int32) (y3_2 : Int32) (ls : Array Slot) (H : Heap) (locs : List Loc), y3_0 = (nI (sN n)) → y3_1 = (sgS n st_ (sN n)) → y3_2 = (nI (sgA n st_ (sN n))) → lv_has ls 8 [(7, .int y3_0), (6, .int y3_2), (5, .int y3_1), (4, .int 1), (0, .ref o), (1, .int st_), (2, .int lf), (3, .int rg)] → Wd D A s.heap [(o, moE g hs a b c_), (a, arE ty 253 n), (b, arE ty 759 pa)] H locs → W p l e (rmD 2) s m args below meth c H locs 0 0 Q (F0 m 114 ls []) := by
      intro y3_0 y3_1 y3_2 ls H locs ey3_0 ey3_1 ey3_2 hl X
      replace ey3_0 := ey3_0.symm; subst ey3_0; replace ey3_1 := ey3_1.symm; subst ey3_1; replace ey3_2 := ey3_2.symm; subst ey3_2
      refine lv_aload_n hx hb dX7_addSegment_114 rfl (lv_at hl 4 rfl) ?_
      refine lv_iload hx hb dX7_addSegment_115 (lv_at hl 3 rfl) ?_
      refine lv_if_ne (tgt := 124) hx hb dX7_addSegment_117 (by decide) (fun _ => ?_) (fun c0 => absurd c0 (by decide))
      refine lv_iload hx hb dX7_addSegment_124 (lv_at hl 2 rfl) ?_
      refine s_eqi (y := (-1)) (hS) ?_
      refine lv_iconst (v := (-1)) hx hb dX7_addSegment_126 (by decide) ?_
      refine lv_icmp_ne (tgt := 146) hx hb dX7_addSegment_127 (by decide) (fun c0 => absurd (by decide) c0) (fun _ => ?_)
      refine lv_aload_n hx hb dX7_addSegment_130 rfl (lv_at hl 4 rfl) ?_
      refine get_mo_0 C hK X 0 rfl fl_X7_7 dX7_addSegment_131 ?_
      refine lv_bipush (v := 74) hx hb dX7_addSegment_134 (by decide) ?_
      refine s_ialN C hK X 1 74 rfl rfl (by decide) (by decide) dX7_addSegment_136 ?_
      refine lv_bipush (v := 12) hx hb dX7_addSegment_137 (by decide) ?_
      refine lv_icmp_ne (tgt := 146) hx hb dX7_addSegment_139 (by decide) (fun _ => ?_) (fun c0 => absurd c0 h12)
      refine lv_iconst (v := 0) hx hb dX7_addSegment_146 (by decide) ?_
      refine s_cVi (ws' := [(o, moE (f_X7_refused_o g 0) hs a b c_), (a, arE ty 253 n), (b, arE ty 759 pa)]) C hK hA X (c_X7_refused l D ty o a b c_ g hs 0) [0] (pk_c rfl pk_n) rfl (pk_c rfl pk_n) (em_t (em_f (em_f em_n))) rfl ml_X7_refused wm_X7_29 (q0 := 0) rfl rfl rfl ⟨Nat.le_of_ble_eq_true rfl, Nat.le_of_ble_eq_true rfl⟩ ⟨Nat.zero_le _, Nat.zero_le _⟩ hl.1 rfl (Nat.le_of_ble_eq_true rfl) dX7_addSegment_147 (fun H locs X => ?_)
      refine s_eqi (y := 0) (by decide) ?_
      refine lv_if_eq (tgt := 155) hx hb dX7_addSegment_150 (by decide) (fun _ => ?_) (fun c0 => absurd (by decide) c0)
      refine lv_aload_n hx hb dX7_addSegment_155 rfl (lv_at hl 4 rfl) ?_
      refine s_cVv (ws' := [(o, moE (f_X7_saves_o (f_X7_refused_o g 0) sv) hs a b c_), (a, arE ty 253 n), (b, arE ty 759 (f_X7_saves_b n pa sv))]) C hK hA X (c_X7_saves l D ty o a b c_ (f_X7_refused_o g 0) hs n pa sv ((pk_un (by decide)).trans hs9) hsv) [0, 1, 2] (pk_c rfl (pk_c rfl (pk_c rfl pk_n))) rfl (pk_c rfl (pk_c rfl (pk_c rfl pk_n))) (em_t (em_t (em_t em_n))) rfl ml_X7_saves wm_X7_143 (q0 := 0) rfl rfl rfl ⟨Nat.le_of_ble_eq_true rfl, Nat.le_of_ble_eq_true rfl⟩ ⟨Nat.zero_le _, Nat.zero_le _⟩ hl.1 rfl (Nat.le_of_ble_eq_true rfl) dX7_addSegment_156 (fun H locs X => ?_)
      refine lv_iload hx hb dX7_addSegment_159 (lv_at hl 2 rfl) ?_
      refine s_eqi (y := (-1)) (hS) ?_
      refine lv_iconst (v := (-1)) hx hb dX7_addSegment_161 (by decide) ?_
      refine lv_icmp_ne (tgt := 226) hx hb dX7_addSegment_162 (by decide) (fun c0 => absurd (by decide) c0) (fun _ => ?_)
      refine lv_iconst (v := 3) hx hb dX7_addSegment_165 (by decide) ?_
      refine lv_aload_n hx hb dX7_addSegment_166 rfl (lv_at hl 4 rfl) ?_
      refine get_mo_0 C hK X 0 rfl fl_X7_7 dX7_addSegment_167 ?_
      refine lv_bipush (v := 74) hx hb dX7_addSegment_170 (by decide) ?_
      refine s_ialN C hK X 1 74 rfl rfl (by decide) (by decide) dX7_addSegment_172 ?_
      refine s_eqi (y := nI (sN n)) (hn) ?_
      refine lv_imul hx hb dX7_addSegment_173 ?_
      refine s_eqi (y := nI (3 * sN n)) (pk_mul 3 _) ?_
      refine lv_iconst (v := 1) hx hb dX7_addSegment_174 (by decide) ?_
      refine lv_isub hx hb dX7_addSegment_175 ?_
      refine lv_istore (lv' := [(7, .int ((nI (3 * sN n)) - 1)), (6, .int (nI (sgA n st_ (sN n)))), (5, .int (sgS n st_ (sN n))), (4, .int 1), (0, .ref o), (1, .int st_), (2, .int lf), (3, .int rg)]) hx hb dX7_addSegment_176 hl (by decide) rfl (fun ls hl => ?_)
      have K4 : ∀ (y4_0 : Int32) (y4_1 : F1) (ls : Array Slot) (H : Heap) (locs : List Loc), y4_0 = (nI (3 * sN n - (3 * (sN n - sgA n st_ (sN n)))) - 1) → y4_1 = (va_cpy n n (75 + (3 * sN n - (3 * (sN n - sgA n st_ (sN n))))) (78 + (3 * sN n - (3 * (sN n - sgA n st_ (sN n))))) (3 * (sN n - sgA n st_ (sN n)))) → lv_has ls 8 [(7, .int y4_0), (6, .int (nI (sgA n st_ (sN n)))), (0, .ref o), (1, .int st_), (2, .int lf), (3, .int rg)] → Wd D A s.heap [(o, moE (f_X7_saves_o (f_X7_refused_o g 0) sv) hs a b c_), (a, arE ty 253 y4_1), (b, arE ty 759 (f_X7_saves_b n pa sv))] H locs → W p l e (rmD 2) s m args below meth c H locs 0 0 Q (F0 m 215 ls []) := by
        intro y4_0 y4_1 ls H locs ey4_0 ey4_1 hl X
        replace ey4_0 := ey4_0.symm; subst ey4_0; replace ey4_1 := ey4_1.symm; subst ey4_1
        refine lv_aload_n hx hb dX7_addSegment_215 rfl (lv_at hl 2 rfl) ?_
        refine get_mo_0 C hK X 0 rfl fl_X7_7 dX7_addSegment_216 ?_
        refine lv_bipush (v := 74) hx hb dX7_addSegment_219 (by decide) ?_
        refine lv_dup2_11 hx hb dX7_addSegment_221 rfl rfl ?_
        refine s_ialN C hK X 1 74 rfl rfl (by decide) (by decide) dX7_addSegment_222 ?_
        refine s_eqi (y := nI (sN n)) ((cpy_lo (by omega)).trans hn) ?_
        refine lv_iconst (v := 1) hx hb dX7_addSegment_223 (by decide) ?_
        refine lv_iadd hx hb dX7_addSegment_224 ?_
        refine s_eqi (y := nI (sN n + 1)) (nI_1 _) ?_
        refine s_iasN C hK X 1 74 rfl rfl (by decide) (by decide) dX7_addSegment_225 (fun H locs X => ?_)
        have X : Wd D A s.heap [(o, moE (f_X7_saves_o (f_X7_refused_o g 0) sv) hs a b c_), (a, arE ty 253 (v_X7_addSegment_new_5 n st_)), (b, arE ty 759 (f_X7_saves_b n pa sv))] H locs := X
        refine lv_aload_n hx hb dX7_addSegment_226 rfl (lv_at hl 2 rfl) ?_
        refine get_mo_0 C hK X 0 rfl fl_X7_7 dX7_addSegment_227 ?_
        refine lv_bipush (v := 75) hx hb dX7_addSegment_230 (by decide) ?_
        refine lv_iconst (v := 3) hx hb dX7_addSegment_232 (by decide) ?_
        refine lv_iload hx hb dX7_addSegment_233 (lv_at hl 1 rfl) ?_
        refine lv_imul hx hb dX7_addSegment_235 ?_
        refine lv_iadd hx hb dX7_addSegment_236 ?_
        refine s_eqi (y := nI (75 + 3 * sgA n st_ (sN n))) (lin 3 75 _) ?_
        refine lv_iload_n hx hb dX7_addSegment_237 rfl (lv_at hl 3 rfl) ?_
        refine s_iasN C hK X 1 (75 + 3 * sgA n st_ (sN n)) rfl rfl (by omega) (by decide) dX7_addSegment_238 (fun H locs X => ?_)
        have X : Wd D A s.heap [(o, moE (f_X7_saves_o (f_X7_refused_o g 0) sv) hs a b c_), (a, arE ty 253 (upd (v_X7_addSegment_new_5 n st_) (75 + 3 * sgA n st_ (sN n)) st_)), (b, arE ty 759 (f_X7_saves_b n pa sv))] H locs := X
        refine lv_aload_n hx hb dX7_addSegment_239 rfl (lv_at hl 2 rfl) ?_
        refine get_mo_0 C hK X 0 rfl fl_X7_7 dX7_addSegment_240 ?_
        refine lv_bipush (v := 75) hx hb dX7_addSegment_243 (by decide) ?_
        refine lv_iconst (v := 3) hx hb dX7_addSegment_245 (by decide) ?_
        refine lv_iload hx hb dX7_addSegment_246 (lv_at hl 1 rfl) ?_
        refine lv_imul hx hb dX7_addSegment_248 ?_
        refine lv_iadd hx hb dX7_addSegment_249 ?_
        refine s_eqi (y := nI (75 + 3 * sgA n st_ (sN n))) (lin 3 75 _) ?_
        refine lv_iconst (v := 1) hx hb dX7_addSegment_250 (by decide) ?_
        refine lv_iadd hx hb dX7_addSegment_251 ?_
        refine s_eqi (y := nI (75 + 3 * sgA n st_ (sN n) + 1)) (nI_1 _) ?_
        refine lv_iload_n hx hb dX7_addSegment_252 rfl (lv_at hl 4 rfl) ?_
        refine s_iasN C hK X 1 (75 + 3 * sgA n st_ (sN n) + 1) rfl rfl (by omega) (by decide) dX7_addSegment_253 (fun H locs X => ?_)
        have X : Wd D A s.heap [(o, moE (f_X7_saves_o (f_X7_refused_o g 0) sv) hs a b c_), (a, arE ty 253 (v_X7_addSegment_new_6 n st_ lf)), (b, arE ty 759 (f_X7_saves_b n pa sv))] H locs := X
        refine lv_aload_n hx hb dX7_addSegment_254 rfl (lv_at hl 2 rfl) ?_
        refine get_mo_0 C hK X 0 rfl fl_X7_7 dX7_addSegment_255 ?_
        refine lv_bipush (v := 75) hx hb dX7_addSegment_258 (by decide) ?_
        refine lv_iconst (v := 3) hx hb dX7_addSegment_260 (by decide) ?_
        refine lv_iload hx hb dX7_addSegment_261 (lv_at hl 1 rfl) ?_
        refine lv_imul hx hb dX7_addSegment_263 ?_
        refine lv_iadd hx hb dX7_addSegment_264 ?_
        refine s_eqi (y := nI (75 + 3 * sgA n st_ (sN n))) (lin 3 75 _) ?_
        refine lv_iconst (v := 2) hx hb dX7_addSegment_265 (by decide) ?_
        refine lv_iadd hx hb dX7_addSegment_266 ?_
        refine s_eqi (y := nI (75 + 3 * sgA n st_ (sN n) + 2)) (nI_add _ 2) ?_
        refine lv_iload_n hx hb dX7_addSegment_267 rfl (lv_at hl 5 rfl) ?_
        refine s_iasN C hK X 1 (75 + 3 * sgA n st_ (sN n) + 2) rfl rfl (by omega) (by decide) dX7_addSegment_268 (fun H locs X => ?_)
        have X : Wd D A s.heap [(o, moE (f_X7_saves_o (f_X7_refused_o g 0) sv) hs a b c_), (a, arE ty 253 (upd (v_X7_addSegment_new_6 n st_ lf) (75 + 3 * sgA n st_ (sN n) + 2) rg)), (b, arE ty 759 (f_X7_saves_b n pa sv))] H locs := X
        refine lv_aload_n hx hb dX7_addSegment_269 rfl (lv_at hl 2 rfl) ?_
        refine get_mo_0 C hK X 0 rfl fl_X7_7 dX7_addSegment_270 ?_
        refine lv_bipush (v := 74) hx hb dX7_addSegment_273 (by decide) ?_
        refine s_ialN C hK X 1 74 rfl rfl (by decide) (by decide) dX7_addSegment_275 ?_
        refine s_eqi (y := nI (sN n + 1)) (rd74 (by omega) pk_us) ?_
        have e_0_0 : (f_X7_addSegment_new_o g sv) = (f_X7_saves_o (f_X7_refused_o g 0) sv) := by first | (rw [f_X7_addSegment_new_o]; done) | (rw [f_X7_addSegment_new_o]; rfl) | (simp only [f_X7_addSegment_new_o]; done)
        have e_1_0 : (f_X7_addSegment_new_a n st_ lf rg) = (upd (v_X7_addSegment_new_6 n st_ lf) (75 + 3 * sgA n st_ (sN n) + 2) rg) := by first | (rw [f_X7_addSegment_new_a]; done) | (rw [f_X7_addSegment_new_a]; rfl) | (simp only [f_X7_addSegment_new_a]; done)
        have e_2_1 : (f_X7_addSegment_new_b n pa sv) = (f_X7_saves_b n pa sv) := by first | (rw [f_X7_addSegment_new_b]; done) | (rw [f_X7_addSegment_new_b]; rfl) | (simp only [f_X7_addSegment_new_b]; done)
        exact hret _ _ _ _ _ _ dX7_addSegment_276 X (by rw [e_0_0, e_1_0, e_2_1]) rfl
      have L4 : ∀ (kf2 i2 : Nat) (y4_0 : Int32) (y4_1 : F1) (ls : Array Slot) (H : Heap) (locs : List Loc), (3 * (sN n - sgA n st_ (sN n))) - i2 < kf2 → (i2 ≤ (3 * (sN n - sgA n st_ (sN n)))) → y4_0 = (nI (3 * sN n - i2) - 1) → y4_1 = (va_cpy n n (75 + (3 * sN n - i2)) (78 + (3 * sN n - i2)) i2) → lv_has ls 8 [(7, .int y4_0), (6, .int (nI (sgA n st_ (sN n)))), (0, .ref o), (1, .int st_), (2, .int lf), (3, .int rg)] → Wd D A s.heap [(o, moE (f_X7_saves_o (f_X7_refused_o g 0) sv) hs a b c_), (a, arE ty 253 y4_1), (b, arE ty 759 (f_X7_saves_b n pa sv))] H locs → W p l e (rmD 2) s m args below meth c H locs 0 0 Q (F0 m 178 ls []) := by
        intro kf2
        induction kf2 with
        | zero => intro i2 y4_0 y4_1 ls H locs hk; exact absurd hk (Nat.not_lt_zero _)
        | succ kf2 ih4 =>
          intro i2 y4_0 y4_1 ls H locs hk2 hI2 ey4_0 ey4_1 hl X
          replace ey4_0 := ey4_0.symm; subst ey4_0; replace ey4_1 := ey4_1.symm; subst ey4_1
          refine lv_iload hx hb dX7_addSegment_178 (lv_at hl 0 rfl) ?_
          refine lv_iconst (v := 3) hx hb dX7_addSegment_180 (by decide) ?_
          refine lv_iload hx hb dX7_addSegment_181 (lv_at hl 1 rfl) ?_
          refine lv_imul hx hb dX7_addSegment_183 ?_
          refine s_eqi (y := nI (3 * sgA n st_ (sN n))) (pk_mul 3 _) ?_
          refine lv_icmp_lt (tgt := 215) hx hb dX7_addSegment_184 (by decide) (fun c0_0 => ?_) (fun c0_0 => ?_)
          · have hE : i2 = (3 * (sN n - sgA n st_ (sN n))) := by have := (lt_m1 (by omega) (by omega)).mp c0_0; omega
            exact K4 (nI (3 * sN n - i2) - 1) (va_cpy n n (75 + (3 * sN n - i2)) (78 + (3 * sN n - i2)) i2) _ _ _ (by rw [hE]) (by rw [hE]) (lv_sub hl [0, 1, 2, 3, 4, 5] rfl) X
          · have h2 : i2 < (3 * (sN n - sgA n st_ (sN n))) := by rcases Nat.lt_or_ge i2 (3 * (sN n - sgA n st_ (sN n))) with q | q; exact q; exact absurd ((lt_m1 (by omega) (by omega)).mpr (by omega)) c0_0
            refine lv_aload_n hx hb dX7_addSegment_187 rfl (lv_at hl 2 rfl) ?_
            refine get_mo_0 C hK X 0 rfl fl_X7_7 dX7_addSegment_188 ?_
            refine lv_bipush (v := 75) hx hb dX7_addSegment_191 (by decide) ?_
            refine lv_iload hx hb dX7_addSegment_193 (lv_at hl 0 rfl) ?_
            refine lv_iadd hx hb dX7_addSegment_195 ?_
            refine s_eqi (y := nI (74 + (3 * sN n - i2))) (ad_i1 (by omega)) ?_
            refine lv_iconst (v := 3) hx hb dX7_addSegment_196 (by decide) ?_
            refine lv_iadd hx hb dX7_addSegment_197 ?_
            refine s_eqi (y := nI (77 + (3 * sN n - i2))) (by rw [show (3 : Int32) = nI 3 from rfl, nI_add]; congr 1; omega) ?_
            refine lv_aload_n hx hb dX7_addSegment_198 rfl (lv_at hl 2 rfl) ?_
            refine get_mo_0 C hK X 0 rfl fl_X7_7 dX7_addSegment_199 ?_
            refine lv_bipush (v := 75) hx hb dX7_addSegment_202 (by decide) ?_
            refine lv_iload hx hb dX7_addSegment_204 (lv_at hl 0 rfl) ?_
            refine lv_iadd hx hb dX7_addSegment_206 ?_
            refine s_eqi (y := nI (74 + (3 * sN n - i2))) (ad_i1 (by omega)) ?_
            refine s_ialN C hK X 1 (74 + (3 * sN n - i2)) rfl rfl (by omega) (by decide) dX7_addSegment_207 ?_
            refine s_eqi (y := n (74 + (3 * sN n - i2))) (cpy_lo (by omega)) ?_
            refine s_iasN C hK X 1 (77 + (3 * sN n - i2)) rfl rfl (by omega) (by decide) dX7_addSegment_208 (fun H locs X => ?_)
            have X : Wd D A s.heap [(o, moE (f_X7_saves_o (f_X7_refused_o g 0) sv) hs a b c_), (a, arE ty 253 (v_X7_addSegment_new_7 n i2)), (b, arE ty 759 (f_X7_saves_b n pa sv))] H locs := X
            refine lv_iinc (v := ((nI (3 * sN n - i2) - 1) + (-1))) (lv' := [(7, .int ((nI (3 * sN n - i2) - 1) + (-1))), (6, .int (nI (sgA n st_ (sN n)))), (0, .ref o), (1, .int st_), (2, .int lf), (3, .int rg)]) hx hb dX7_addSegment_209 hl (k := 0) rfl rfl (by decide) rfl (fun ls hl => ?_)
            refine lv_goto (tgt := 178) hx hb dX7_addSegment_212 (by decide) ?_
            have h2 : i2 < (3 * (sN n - sgA n st_ (sN n))) := by rcases Nat.lt_or_ge i2 (3 * (sN n - sgA n st_ (sN n))) with q | q; exact q; exact absurd ((lt_m1 (by omega) (by omega)).mpr (by omega)) c0_0
            exact ih4 (i2 + 1) ((nI (3 * sN n - i2) - 1) + (-1)) (v_X7_addSegment_new_7 n i2) _ _ _ (by omega) (by omega) ((m1_m1 (by omega)).trans (by rw [Nat.sub_sub])) (cpy_down (B := 0) (by omega)) (lv_sub hl [0, 1, 2, 3, 4, 5] rfl) X
      exact L4 ((3 * (sN n - sgA n st_ (sN n))) + 1) 0 ((nI (3 * sN n)) - 1) n _ _ _ (by omega) (Nat.zero_le _) rfl cpy_0.symm (lv_sub hl [0, 1, 4, 5, 6, 7] rfl) X
    have L3 : ∀ (kf i : Nat) (y3_0 : Int32) (y3_1 : Int32) (y3_2 : Int32) (ls : Array Slot) (H : Heap) (locs : List Loc), (sN n) - i < kf → (i ≤ sN n) → y3_0 = (nI i) → y3_1 = (sgS n st_ i) → y3_2 = (nI (sgA n st_ i)) → lv_has ls 8 [(7, .int y3_0), (6, .int y3_2), (5, .int y3_1), (4, .int 1), (0, .ref o), (1, .int st_), (2, .int lf), (3, .int rg)] → Wd D A s.heap [(o, moE g hs a b c_), (a, arE ty 253 n), (b, arE ty 759 pa)] H locs → W p l e (rmD 2) s m args below meth c H locs 0 0 Q (F0 m 45 ls []) := by
      intro kf
      induction kf with
      | zero => intro i y3_0 y3_1 y3_2 ls H locs hk; exact absurd hk (Nat.not_lt_zero _)
      | succ kf ih3 =>
        intro i y3_0 y3_1 y3_2 ls H locs hk hI ey3_0 ey3_1 ey3_2 hl X
        replace ey3_0 := ey3_0.symm; subst ey3_0; replace ey3_1 := ey3_1.symm; subst ey3_1; replace ey3_2 := ey3_2.symm; subst ey3_2
        refine lv_iload hx hb dX7_addSegment_45 (lv_at hl 0 rfl) ?_
        refine lv_aload_n hx hb dX7_addSegment_47 rfl (lv_at hl 4 rfl) ?_
        refine get_mo_0 C hK X 0 rfl fl_X7_7 dX7_addSegment_48 ?_
        refine lv_bipush (v := 74) hx hb dX7_addSegment_51 (by decide) ?_
        refine s_ialN C hK X 1 74 rfl rfl (by decide) (by decide) dX7_addSegment_53 ?_
        refine s_eqi (y := nI (sN n)) (hn) ?_
        refine lv_icmp_ge (tgt := 114) hx hb dX7_addSegment_54 (by decide) (fun c0_0 => ?_) (fun c0_0 => ?_)
        · have hE : i = sN n := eq_of_nIle (by omega) (by omega) hI c0_0
          exact K3 (nI i) (sgS n st_ i) (nI (sgA n st_ i)) _ _ _ (by rw [hE]) (by rw [hE]) (by rw [hE]) (lv_sub hl [0, 1, 2, 3, 4, 5, 6, 7] rfl) X
        · have h1 : i < sN n := lt_of_nnIle (by omega) (by omega) c0_0
          refine lv_aload_n hx hb dX7_addSegment_57 rfl (lv_at hl 4 rfl) ?_
          refine get_mo_0 C hK X 0 rfl fl_X7_7 dX7_addSegment_58 ?_
          refine lv_bipush (v := 75) hx hb dX7_addSegment_61 (by decide) ?_
          refine lv_iconst (v := 3) hx hb dX7_addSegment_63 (by decide) ?_
          refine lv_iload hx hb dX7_addSegment_64 (lv_at hl 0 rfl) ?_
          refine lv_imul hx hb dX7_addSegment_66 ?_
          refine lv_iadd hx hb dX7_addSegment_67 ?_
          refine s_eqi (y := nI (75 + 3 * i)) (lin 3 75 i) ?_
          refine s_ialN C hK X 1 (75 + 3 * i) rfl rfl (by omega) (by decide) dX7_addSegment_68 ?_
          refine lv_iload_n hx hb dX7_addSegment_69 rfl (lv_at hl 5 rfl) ?_
          have J80_9 : ∀ (x8 : Int32) (ls : Array Slot) (H : Heap) (locs : List Loc), x8 = (v_X7_addSegment_new_8 n st_ i) → lv_has ls 8 [(7, .int (nI i)), (6, .int (nI (sgA n st_ i))), (5, .int (sgS n st_ i)), (4, .int 1), (0, .ref o), (1, .int st_), (2, .int lf), (3, .int rg)] → Wd D A s.heap [(o, moE g hs a b c_), (a, arE ty 253 n), (b, arE ty 759 pa)] H locs → W p l e (rmD 2) s m args below meth c H locs 0 0 Q (F0 m 80 ls [.int x8]) := by
            intro x8 ls H locs ex8 hl X
            replace ex8 := ex8.symm; subst ex8
            refine s_eqi (y := sgS n st_ (i + 1)) (rfl) ?_
            refine lv_istore (lv' := [(5, .int (sgS n st_ (i + 1))), (7, .int (nI i)), (6, .int (nI (sgA n st_ i))), (4, .int 1), (0, .ref o), (1, .int st_), (2, .int lf), (3, .int rg)]) hx hb dX7_addSegment_80 hl (by decide) rfl (fun ls hl => ?_)
            refine lv_iload hx hb dX7_addSegment_82 (lv_at hl 2 rfl) ?_
            refine lv_aload_n hx hb dX7_addSegment_84 rfl (lv_at hl 4 rfl) ?_
            refine get_mo_0 C hK X 0 rfl fl_X7_7 dX7_addSegment_85 ?_
            refine lv_bipush (v := 75) hx hb dX7_addSegment_88 (by decide) ?_
            refine lv_iconst (v := 3) hx hb dX7_addSegment_90 (by decide) ?_
            refine lv_iload hx hb dX7_addSegment_91 (lv_at hl 1 rfl) ?_
            refine lv_imul hx hb dX7_addSegment_93 ?_
            refine lv_iadd hx hb dX7_addSegment_94 ?_
            refine s_eqi (y := nI (75 + 3 * i)) (lin 3 75 i) ?_
            refine s_ialN C hK X 1 (75 + 3 * i) rfl rfl (by omega) (by decide) dX7_addSegment_95 ?_
            refine lv_iload_n hx hb dX7_addSegment_96 rfl (lv_at hl 5 rfl) ?_
            have J105_11 : ∀ (x10 : Int32) (ls : Array Slot) (H : Heap) (locs : List Loc), x10 = (v_X7_addSegment_new_10 n st_ i) → lv_has ls 8 [(5, .int (sgS n st_ (i + 1))), (7, .int (nI i)), (6, .int (nI (sgA n st_ i))), (4, .int 1), (0, .ref o), (1, .int st_), (2, .int lf), (3, .int rg)] → Wd D A s.heap [(o, moE g hs a b c_), (a, arE ty 253 n), (b, arE ty 759 pa)] H locs → W p l e (rmD 2) s m args below meth c H locs 0 0 Q (F0 m 105 ls [.int x10, .int (nI (sgA n st_ i))]) := by
              intro x10 ls H locs ex10 hl X
              replace ex10 := ex10.symm; subst ex10
              refine lv_iadd hx hb dX7_addSegment_105 ?_
              refine s_eqi (y := nI (sgA n st_ (i + 1))) (sgA_step n st_ i) ?_
              refine lv_istore (lv' := [(6, .int (nI (sgA n st_ (i + 1)))), (5, .int (sgS n st_ (i + 1))), (7, .int (nI i)), (4, .int 1), (0, .ref o), (1, .int st_), (2, .int lf), (3, .int rg)]) hx hb dX7_addSegment_106 hl (by decide) rfl (fun ls hl => ?_)
              refine lv_iinc (v := ((nI i) + 1)) (lv' := [(7, .int ((nI i) + 1)), (6, .int (nI (sgA n st_ (i + 1)))), (5, .int (sgS n st_ (i + 1))), (4, .int 1), (0, .ref o), (1, .int st_), (2, .int lf), (3, .int rg)]) hx hb dX7_addSegment_108 hl (k := 2) rfl rfl (by decide) rfl (fun ls hl => ?_)
              refine lv_goto (tgt := 45) hx hb dX7_addSegment_111 (by decide) ?_
              have h1 : i < sN n := lt_of_nnIle (by omega) (by omega) c0_0
              exact ih3 (i + 1) ((nI i) + 1) (sgS n st_ (i + 1)) (nI (sgA n st_ (i + 1))) _ _ _ (by omega) (by omega) (nI_1 i) rfl rfl (lv_sub hl [0, 1, 2, 3, 4, 5, 6, 7] rfl) X
            refine lv_icmp_ge (tgt := 104) hx hb dX7_addSegment_97 (by decide) (fun c1_1 => ?_) (fun c1_1 => ?_)
            · refine lv_iconst (v := 0) hx hb dX7_addSegment_104 (by decide) ?_
              exact J105_11 0 _ _ _ (by first | (rw [v_X7_addSegment_new_10, if_pos c1_1]; done) | (rw [v_X7_addSegment_new_10, if_pos c1_1]; rfl) | (simp only [v_X7_addSegment_new_10, if_pos c1_1]; done)) (lv_sub hl [0, 1, 2, 3, 4, 5, 6, 7] rfl) X
            · refine lv_iconst (v := 1) hx hb dX7_addSegment_100 (by decide) ?_
              refine lv_goto (tgt := 105) hx hb dX7_addSegment_101 (by decide) ?_
              exact J105_11 1 _ _ _ (by first | (rw [v_X7_addSegment_new_10, if_neg c1_1]; done) | (rw [v_X7_addSegment_new_10, if_neg c1_1]; rfl) | (simp only [v_X7_addSegment_new_10, if_neg c1_1]; done)) (lv_sub hl [0, 1, 2, 3, 4, 5, 6, 7] rfl) X
          refine lv_icmp_ne (tgt := 78) hx hb dX7_addSegment_70 (by decide) (fun c1_1 => ?_) (fun c1_1 => ?_)
          · refine lv_iload hx hb dX7_addSegment_78 (lv_at hl 2 rfl) ?_
            exact J80_9 (sgS n st_ i) _ _ _ (by first | (rw [v_X7_addSegment_new_8, if_neg c1_1]; done) | (rw [v_X7_addSegment_new_8, if_neg c1_1]; rfl) | (simp only [v_X7_addSegment_new_8, if_neg c1_1]; done)) (lv_sub hl [0, 1, 2, 3, 4, 5, 6, 7] rfl) X
          · refine lv_iload hx hb dX7_addSegment_73 (lv_at hl 0 rfl) ?_
            refine lv_goto (tgt := 80) hx hb dX7_addSegment_75 (by decide) ?_
            exact J80_9 (nI i) _ _ _ (by first | (rw [v_X7_addSegment_new_8, if_pos c1_1]; done) | (rw [v_X7_addSegment_new_8, if_pos c1_1]; rfl) | (simp only [v_X7_addSegment_new_8, if_pos c1_1]; done)) (lv_sub hl [0, 1, 2, 3, 4, 5, 6, 7] rfl) X
    exact L3 ((sN n) + 1) 0 0 (-1) 0 _ _ _ (by omega) (Nat.zero_le _) rfl rfl rfl (lv_sub hl [0, 1, 2, 3, 4, 5, 6, 7] rfl) X
  refine lv_if_eq (tgt := 33) hx hb dX7_addSegment_12 (by decide) (fun c0_0 => ?_) (fun c0_0 => ?_)
  · refine lv_iconst (v := 0) hx hb dX7_addSegment_33 (by decide) ?_
    exact J34_2 0 _ _ _ (by first | (rw [v_X7_addSegment_new_1, if_pos c0_0]; done) | (rw [v_X7_addSegment_new_1, if_pos c0_0]; rfl) | (simp only [v_X7_addSegment_new_1, if_pos c0_0]; done)) (lv_sub hl [0, 1, 2, 3] rfl) X
  · refine lv_iload_n hx hb dX7_addSegment_15 rfl (lv_at hl 2 rfl) ?_
    refine s_cS0i C hK hA X (c_X7_isSurface l D ty lf) [] pk_n rfl sl_X7_isSurface wm_X7_150 ⟨Nat.le_of_ble_eq_true rfl, Nat.le_of_ble_eq_true rfl⟩ ⟨Nat.zero_le _, Nat.zero_le _⟩ hl.1 rfl (Nat.le_of_ble_eq_true rfl) dX7_addSegment_16 (fun H locs X => ?_)
    refine lv_if_eq (tgt := 33) hx hb dX7_addSegment_19 (by decide) (fun c1_1 => ?_) (fun c1_1 => ?_)
    · refine lv_iconst (v := 0) hx hb dX7_addSegment_33 (by decide) ?_
      exact J34_2 0 _ _ _ (by first | (rw [v_X7_addSegment_new_1, if_neg c0_0, if_pos c1_1]; done) | (rw [v_X7_addSegment_new_1, if_neg c0_0, if_pos c1_1]; rfl) | (simp only [v_X7_addSegment_new_1, if_neg c0_0, if_pos c1_1]; done)) (lv_sub hl [0, 1, 2, 3] rfl) X
    · refine lv_iload_n hx hb dX7_addSegment_22 rfl (lv_at hl 3 rfl) ?_
      refine s_cS0i C hK hA X (c_X7_isSurface l D ty rg) [] pk_n rfl sl_X7_isSurface wm_X7_150 ⟨Nat.le_of_ble_eq_true rfl, Nat.le_of_ble_eq_true rfl⟩ ⟨Nat.zero_le _, Nat.zero_le _⟩ hl.1 rfl (Nat.le_of_ble_eq_true rfl) dX7_addSegment_23 (fun H locs X => ?_)
      refine lv_if_eq (tgt := 33) hx hb dX7_addSegment_26 (by decide) (fun c2_2 => ?_) (fun c2_2 => ?_)
      · refine lv_iconst (v := 0) hx hb dX7_addSegment_33 (by decide) ?_
        exact J34_2 0 _ _ _ (by first | (rw [v_X7_addSegment_new_1, if_neg c0_0, if_neg c1_1, if_pos c2_2]; done) | (rw [v_X7_addSegment_new_1, if_neg c0_0, if_neg c1_1, if_pos c2_2]; rfl) | (simp only [v_X7_addSegment_new_1, if_neg c0_0, if_neg c1_1, if_pos c2_2]; done)) (lv_sub hl [0, 1, 2, 3] rfl) X
      · refine lv_iconst (v := 1) hx hb dX7_addSegment_29 (by decide) ?_
        refine lv_goto (tgt := 34) hx hb dX7_addSegment_30 (by decide) ?_
        exact J34_2 1 _ _ _ (by first | (rw [v_X7_addSegment_new_1, if_neg c0_0, if_neg c1_1, if_neg c2_2]; done) | (rw [v_X7_addSegment_new_1, if_neg c0_0, if_neg c1_1, if_neg c2_2]; rfl) | (simp only [v_X7_addSegment_new_1, if_neg c0_0, if_neg c1_1, if_neg c2_2]; done)) (lv_sub hl [0, 1, 2, 3] rfl) X
def planOK (V U : Int32) : Int32 := (if (f_X7_within V 1 5000) = 0 then 0 else (if (f_X7_within U 0 2000) = 0 then 0 else 1))
def plP (n : F1) (T : Int32) : Nat → Bool := fun i => decide (¬ nI (pN n - i) ≤ 0) && decide (¬ n (110 + 2 * (pN n - i)) ≤ T)
/-- how many entries of the plan come behind a time -/
def plK (n : F1) (T : Int32) : Nat := scanB (plP n T) 10 0
theorem plK_le {n : F1} (T : Int32) : plK n T ≤ pN n := by
  rcases Nat.lt_or_ge (pN n) (plK n T) with q | q
  · have h1 := scan_all (P := plP n T) 10 0 (pN n) (Nat.zero_le _) q
    simp only [plP, Bool.and_eq_true, decide_eq_true_eq] at h1
    exact absurd (by rw [Nat.sub_self]; decide) h1.1
  · exact q
theorem lin2 (k : Nat) : 112 + 2 * nI k = nI (112 + 2 * k) := lin 2 112 k
theorem pN_ne {n : F1} (hM : MOK n) (h : ¬ n 111 = 10) : pN n ≤ 9 := by
  obtain ⟨hn, hs2⟩ := pN_eq hM
  rcases Nat.lt_or_ge (pN n) 10 with q | q
  · omega
  · exact absurd (by rw [hn, show pN n = 10 by omega]; rfl) h
theorem cpy_down2 {n : F1} {A i : Nat} (hA : i < A) : upd (upd (va_cpy n n (112 + 2 * (A - i)) (114 + 2 * (A - i)) (2 * i)) (112 + 2 * (A - i)) (n (110 + 2 * (A - i)))) (113 + 2 * (A - i)) (n (111 + 2 * (A - i))) = va_cpy n n (112 + 2 * (A - (i + 1))) (114 + 2 * (A - (i + 1))) (2 * (i + 1)) := by
  funext q
  unfold upd va_cpy
  by_cases h : q = 113 + 2 * (A - i)
  · rw [if_pos h, if_pos (by omega)]; congr 1; omega
  · rw [if_neg h]
    by_cases h2 : q = 112 + 2 * (A - i)
    · rw [if_pos h2, if_pos (by omega)]; congr 1; omega
    · rw [if_neg h2]
      by_cases h3 : 114 + 2 * (A - i) ≤ q ∧ q < 114 + 2 * (A - i) + 2 * i
      · rw [if_pos h3, if_pos (by omega)]; congr 1; omega
      · rw [if_neg h3, if_neg (by omega)]
theorem MOK_p {n : F1} {i : Nat} {v : Int32} (hi : 111 < i ∧ i < 132) (h : MOK n) : MOK (upd n i v) :=
  MOK_of h (pk_un (by omega)) (pk_un (by omega)) (pk_un (by omega)) (fun j hj => pk_un (by omega))
theorem MOK_111 {n : F1} {k : Nat} (hk : k ≤ 10) (h : MOK n) : MOK (upd n 111 (nI k)) := by
  refine ⟨by rw [pk_un (by omega)]; exact h.1, by rw [pk_us, nI_toInt (by omega)]; omega, by rw [pk_un (by omega)]; exact h.2.2.1, fun j hj => by rw [pk_un (by omega)]; exact h.2.2.2 j hj⟩
theorem MOK_psh {n : F1} {sp dp k : Nat} (h : MOK n) (h1 : 112 ≤ dp) (h2 : dp + k ≤ 132) : MOK (va_cpy n n sp dp k) :=
  MOK_of h (cpy_lo (by omega)) (cpy_lo (by omega)) (cpy_hi (by omega)) (fun j hj => cpy_lo (by omega))
theorem pos_of {A : Nat} (hA : A < 2 ^ 31) (c : ¬ nI A ≤ 0) : 0 < A := by
  rcases Nat.eq_zero_or_pos A with e | e
  · subst e; exact absurd (by decide) c
  · exact e
def v_X7_plan_no1_1 (V : Int32) (U : Int32) : Int32 := (if (f_X7_within V 1 5000) = 0 then 0 else (if (f_X7_within U 0 2000) = 0 then 0 else 1))
def f_X7_plan_no1_o (g : F1) : F1 := (f_X7_refused_o g 1)
set_option maxHeartbeats 4000000 in
set_option maxRecDepth 100000 in
theorem c_X7_plan_no1 (l : Launch) (D : va_G) (ty : Nat → ClassId) (o : Nat) (a : Nat) (b : Nat) (c_ : Nat) (g : F1) (hs : Int64) (V : Int32) (U : Int32) (hv : planOK V U = 0) : MC l D ty yX7_plan cX7_plan 6 (some .int) 1 [.ref o, .int V, .int U] [(o, moE g hs a b c_)] (some (.int 0)) [(o, moE (f_X7_plan_no1_o g) hs a b c_)] := by
  refine mc_i (by decide +kernel) (Nat.le_of_ble_eq_true rfl) ?_
  intro p e s m args below meth c A Q ls C hK hA X hret hl
  have hx := C.1
  have hb := C.2.1
  have hl : lv_has ls 6 [(0, .ref o), (1, .int V), (2, .int U)] := hl
  have X : Wd D A s.heap [(o, moE g hs a b c_)] s.heap [] := X
  refine lv_iload_n hx hb dX7_plan_0 rfl (lv_at hl 1 rfl) ?_
  refine lv_iconst (v := 1) hx hb dX7_plan_1 (by decide) ?_
  refine lv_sipush (v := 5000) hx hb dX7_plan_2 (by decide) ?_
  refine s_cS0i C hK hA X (c_X7_within l D ty V 1 5000) [] pk_n rfl sl_X7_within wm_X7_37 ⟨Nat.le_of_ble_eq_true rfl, Nat.le_of_ble_eq_true rfl⟩ ⟨Nat.zero_le _, Nat.zero_le _⟩ hl.1 rfl (Nat.le_of_ble_eq_true rfl) dX7_plan_5 (fun H locs X => ?_)
  have J27_2 : ∀ (x1 : Int32) (ls : Array Slot) (H : Heap) (locs : List Loc), x1 = (v_X7_plan_no1_1 V U) → lv_has ls 6 [(0, .ref o), (1, .int V), (2, .int U)] → Wd D A s.heap [(o, moE g hs a b c_)] H locs → W p l e (rmD 1) s m args below meth c H locs 0 0 Q (F0 m 27 ls [.int x1]) := by
    intro x1 ls H locs ex1 hl X
    replace ex1 := ex1.symm; subst ex1
    refine s_eqi (y := 0) (hv) ?_
    refine lv_istore_n (lv' := [(3, .int 0), (0, .ref o), (1, .int V), (2, .int U)]) hx hb dX7_plan_27 rfl hl (by decide) rfl (fun ls hl => ?_)
    refine lv_aload_n hx hb dX7_plan_28 rfl (lv_at hl 1 rfl) ?_
    refine lv_iload_n hx hb dX7_plan_29 rfl (lv_at hl 0 rfl) ?_
    refine lv_if_ne (tgt := 37) hx hb dX7_plan_30 (by decide) (fun c0 => absurd (by decide) c0) (fun _ => ?_)
    refine lv_iconst (v := 1) hx hb dX7_plan_33 (by decide) ?_
    refine lv_goto (tgt := 54) hx hb dX7_plan_34 (by decide) ?_
    refine s_cVi (ws' := [(o, moE (f_X7_refused_o g 1) hs a b c_)]) C hK hA X (c_X7_refused l D ty o a b c_ g hs 1) [0] (pk_c rfl pk_n) rfl (pk_c rfl pk_n) (em_t em_n) rfl ml_X7_refused wm_X7_29 (q0 := 0) rfl rfl rfl ⟨Nat.le_of_ble_eq_true rfl, Nat.le_of_ble_eq_true rfl⟩ ⟨Nat.zero_le _, Nat.zero_le _⟩ hl.1 rfl (Nat.le_of_ble_eq_true rfl) dX7_plan_54 (fun H locs X => ?_)
    refine s_eqi (y := 1) (by decide) ?_
    refine lv_if_eq (tgt := 62) hx hb dX7_plan_57 (by decide) (fun c0 => absurd c0 (by decide)) (fun _ => ?_)
    refine lv_iconst (v := 0) hx hb dX7_plan_60 (by decide) ?_
    have e_0_0 : (f_X7_plan_no1_o g) = (f_X7_refused_o g 1) := by first | (rw [f_X7_plan_no1_o]; done) | (rw [f_X7_plan_no1_o]; rfl) | (simp only [f_X7_plan_no1_o]; done)
    exact hret _ _ _ _ _ _ dX7_plan_61 X (by rw [e_0_0]) rfl
  refine lv_if_eq (tgt := 26) hx hb dX7_plan_8 (by decide) (fun c0_0 => ?_) (fun c0_0 => ?_)
  · refine lv_iconst (v := 0) hx hb dX7_plan_26 (by decide) ?_
    exact J27_2 0 _ _ _ (by first | (rw [v_X7_plan_no1_1, if_pos c0_0]; done) | (rw [v_X7_plan_no1_1, if_pos c0_0]; rfl) | (simp only [v_X7_plan_no1_1, if_pos c0_0]; done)) (lv_sub hl [0, 1, 2] rfl) X
  · refine lv_iload_n hx hb dX7_plan_11 rfl (lv_at hl 2 rfl) ?_
    refine lv_iconst (v := 0) hx hb dX7_plan_12 (by decide) ?_
    refine lv_sipush (v := 2000) hx hb dX7_plan_13 (by decide) ?_
    refine s_cS0i C hK hA X (c_X7_within l D ty U 0 2000) [] pk_n rfl sl_X7_within wm_X7_37 ⟨Nat.le_of_ble_eq_true rfl, Nat.le_of_ble_eq_true rfl⟩ ⟨Nat.zero_le _, Nat.zero_le _⟩ hl.1 rfl (Nat.le_of_ble_eq_true rfl) dX7_plan_16 (fun H locs X => ?_)
    refine lv_if_eq (tgt := 26) hx hb dX7_plan_19 (by decide) (fun c1_1 => ?_) (fun c1_1 => ?_)
    · refine lv_iconst (v := 0) hx hb dX7_plan_26 (by decide) ?_
      exact J27_2 0 _ _ _ (by first | (rw [v_X7_plan_no1_1, if_neg c0_0, if_pos c1_1]; done) | (rw [v_X7_plan_no1_1, if_neg c0_0, if_pos c1_1]; rfl) | (simp only [v_X7_plan_no1_1, if_neg c0_0, if_pos c1_1]; done)) (lv_sub hl [0, 1, 2] rfl) X
    · refine lv_iconst (v := 1) hx hb dX7_plan_22 (by decide) ?_
      refine lv_goto (tgt := 27) hx hb dX7_plan_23 (by decide) ?_
      exact J27_2 1 _ _ _ (by first | (rw [v_X7_plan_no1_1, if_neg c0_0, if_neg c1_1]; done) | (rw [v_X7_plan_no1_1, if_neg c0_0, if_neg c1_1]; rfl) | (simp only [v_X7_plan_no1_1, if_neg c0_0, if_neg c1_1]; done)) (lv_sub hl [0, 1, 2] rfl) X
def v_X7_plan_no2_1 (V : Int32) (U : Int32) : Int32 := (if (f_X7_within V 1 5000) = 0 then 0 else (if (f_X7_within U 0 2000) = 0 then 0 else 1))
def f_X7_plan_no2_o (g : F1) : F1 := (f_X7_refused_o g 2)
set_option maxHeartbeats 4000000 in
set_option maxRecDepth 100000 in
theorem c_X7_plan_no2 (l : Launch) (D : va_G) (ty : Nat → ClassId) (o : Nat) (a : Nat) (b : Nat) (c_ : Nat) (g : F1) (hs : Int64) (n : F1) (V : Int32) (U : Int32) (hv : planOK V U = 1) (h10 : n 111 = 10) : MC l D ty yX7_plan cX7_plan 6 (some .int) 1 [.ref o, .int V, .int U] [(o, moE g hs a b c_), (a, arE ty 253 n)] (some (.int 0)) [(o, moE (f_X7_plan_no2_o g) hs a b c_), (a, arE ty 253 n)] := by
  refine mc_i (by decide +kernel) (Nat.le_of_ble_eq_true rfl) ?_
  intro p e s m args below meth c A Q ls C hK hA X hret hl
  have hx := C.1
  have hb := C.2.1
  have hl : lv_has ls 6 [(0, .ref o), (1, .int V), (2, .int U)] := hl
  have X : Wd D A s.heap [(o, moE g hs a b c_), (a, arE ty 253 n)] s.heap [] := X
  refine lv_iload_n hx hb dX7_plan_0 rfl (lv_at hl 1 rfl) ?_
  refine lv_iconst (v := 1) hx hb dX7_plan_1 (by decide) ?_
  refine lv_sipush (v := 5000) hx hb dX7_plan_2 (by decide) ?_
  refine s_cS0i C hK hA X (c_X7_within l D ty V 1 5000) [] pk_n rfl sl_X7_within wm_X7_37 ⟨Nat.le_of_ble_eq_true rfl, Nat.le_of_ble_eq_true rfl⟩ ⟨Nat.zero_le _, Nat.zero_le _⟩ hl.1 rfl (Nat.le_of_ble_eq_true rfl) dX7_plan_5 (fun H locs X => ?_)
  have J27_2 : ∀ (x1 : Int32) (ls : Array Slot) (H : Heap) (locs : List Loc), x1 = (v_X7_plan_no2_1 V U) → lv_has ls 6 [(0, .ref o), (1, .int V), (2, .int U)] → Wd D A s.heap [(o, moE g hs a b c_), (a, arE ty 253 n)] H locs → W p l e (rmD 1) s m args below meth c H locs 0 0 Q (F0 m 27 ls [.int x1]) := by
    intro x1 ls H locs ex1 hl X
    replace ex1 := ex1.symm; subst ex1
    refine s_eqi (y := 1) (hv) ?_
    refine lv_istore_n (lv' := [(3, .int 1), (0, .ref o), (1, .int V), (2, .int U)]) hx hb dX7_plan_27 rfl hl (by decide) rfl (fun ls hl => ?_)
    refine lv_aload_n hx hb dX7_plan_28 rfl (lv_at hl 1 rfl) ?_
    refine lv_iload_n hx hb dX7_plan_29 rfl (lv_at hl 0 rfl) ?_
    refine lv_if_ne (tgt := 37) hx hb dX7_plan_30 (by decide) (fun _ => ?_) (fun c0 => absurd c0 (by decide))
    refine lv_aload_n hx hb dX7_plan_37 rfl (lv_at hl 1 rfl) ?_
    refine get_mo_0 C hK X 0 rfl fl_X7_7 dX7_plan_38 ?_
    refine lv_bipush (v := 111) hx hb dX7_plan_41 (by decide) ?_
    refine s_ialN C hK X 1 111 rfl rfl (by decide) (by decide) dX7_plan_43 ?_
    refine s_eqi (y := 10) (h10) ?_
    refine lv_bipush (v := 10) hx hb dX7_plan_44 (by decide) ?_
    refine lv_icmp_ne (tgt := 53) hx hb dX7_plan_46 (by decide) (fun c0 => absurd (by decide) c0) (fun _ => ?_)
    refine lv_iconst (v := 2) hx hb dX7_plan_49 (by decide) ?_
    refine lv_goto (tgt := 54) hx hb dX7_plan_50 (by decide) ?_
    refine s_cVi (ws' := [(o, moE (f_X7_refused_o g 2) hs a b c_), (a, arE ty 253 n)]) C hK hA X (c_X7_refused l D ty o a b c_ g hs 2) [0] (pk_c rfl pk_n) rfl (pk_c rfl pk_n) (em_t (em_f em_n)) rfl ml_X7_refused wm_X7_29 (q0 := 0) rfl rfl rfl ⟨Nat.le_of_ble_eq_true rfl, Nat.le_of_ble_eq_true rfl⟩ ⟨Nat.zero_le _, Nat.zero_le _⟩ hl.1 rfl (Nat.le_of_ble_eq_true rfl) dX7_plan_54 (fun H locs X => ?_)
    refine s_eqi (y := 1) (by decide) ?_
    refine lv_if_eq (tgt := 62) hx hb dX7_plan_57 (by decide) (fun c0 => absurd c0 (by decide)) (fun _ => ?_)
    refine lv_iconst (v := 0) hx hb dX7_plan_60 (by decide) ?_
    have e_0_0 : (f_X7_plan_no2_o g) = (f_X7_refused_o g 2) := by first | (rw [f_X7_plan_no2_o]; done) | (rw [f_X7_plan_no2_o]; rfl) | (simp only [f_X7_plan_no2_o]; done)
    exact hret _ _ _ _ _ _ dX7_plan_61 X (by rw [e_0_0]) rfl
  refine lv_if_eq (tgt := 26) hx hb dX7_plan_8 (by decide) (fun c0_0 => ?_) (fun c0_0 => ?_)
  · refine lv_iconst (v := 0) hx hb dX7_plan_26 (by decide) ?_
    exact J27_2 0 _ _ _ (by first | (rw [v_X7_plan_no2_1, if_pos c0_0]; done) | (rw [v_X7_plan_no2_1, if_pos c0_0]; rfl) | (simp only [v_X7_plan_no2_1, if_pos c0_0]; done)) (lv_sub hl [0, 1, 2] rfl) X
  · refine lv_iload_n hx hb dX7_plan_11 rfl (lv_at hl 2 rfl) ?_
    refine lv_iconst (v := 0) hx hb dX7_plan_12 (by decide) ?_
    refine lv_sipush (v := 2000) hx hb dX7_plan_13 (by decide) ?_
    refine s_cS0i C hK hA X (c_X7_within l D ty U 0 2000) [] pk_n rfl sl_X7_within wm_X7_37 ⟨Nat.le_of_ble_eq_true rfl, Nat.le_of_ble_eq_true rfl⟩ ⟨Nat.zero_le _, Nat.zero_le _⟩ hl.1 rfl (Nat.le_of_ble_eq_true rfl) dX7_plan_16 (fun H locs X => ?_)
    refine lv_if_eq (tgt := 26) hx hb dX7_plan_19 (by decide) (fun c1_1 => ?_) (fun c1_1 => ?_)
    · refine lv_iconst (v := 0) hx hb dX7_plan_26 (by decide) ?_
      exact J27_2 0 _ _ _ (by first | (rw [v_X7_plan_no2_1, if_neg c0_0, if_pos c1_1]; done) | (rw [v_X7_plan_no2_1, if_neg c0_0, if_pos c1_1]; rfl) | (simp only [v_X7_plan_no2_1, if_neg c0_0, if_pos c1_1]; done)) (lv_sub hl [0, 1, 2] rfl) X
    · refine lv_iconst (v := 1) hx hb dX7_plan_22 (by decide) ?_
      refine lv_goto (tgt := 27) hx hb dX7_plan_23 (by decide) ?_
      exact J27_2 1 _ _ _ (by first | (rw [v_X7_plan_no2_1, if_neg c0_0, if_neg c1_1]; done) | (rw [v_X7_plan_no2_1, if_neg c0_0, if_neg c1_1]; rfl) | (simp only [v_X7_plan_no2_1, if_neg c0_0, if_neg c1_1]; done)) (lv_sub hl [0, 1, 2] rfl) X
theorem sb2 {k : Nat} (h : 0 < k) : nI (112 + 2 * k) - 2 = nI (110 + 2 * k) := (pk_sub (b := 2) (by omega)).trans (by congr 1; omega)
theorem plan_rd {n : F1} {sp k e : Nat} {x y : Int32} (hM : MOK n) : (upd (upd (va_cpy n n sp (114 + 2 * k) e) (112 + 2 * k) x) (113 + 2 * k) y) 111 = nI (pN n) := by
  rw [pk_un (by omega), pk_un (by omega), cpy_lo (by omega)]; exact (pN_eq hM).1
theorem m1_1 {A : Nat} (h : 0 < A) : nI A + (-1) = nI (A - 1) := by
  rw [← sb_m1s h, Int32.sub_eq_add_neg]
def v_X7_plan_ok_1 (V : Int32) (U : Int32) : Int32 := (if (f_X7_within V 1 5000) = 0 then 0 else (if (f_X7_within U 0 2000) = 0 then 0 else 1))
def v_X7_plan_ok_4 (n : F1) (V : Int32) : F1 := (upd (va_cpy n n (112 + 2 * (pN n - (plK n (n 2 + V)))) (114 + 2 * (pN n - (plK n (n 2 + V)))) (2 * (plK n (n 2 + V)))) (112 + 2 * (pN n - (plK n (n 2 + V)))) ((n 2) + V))
def v_X7_plan_ok_5 (n : F1) (V : Int32) (U : Int32) : F1 := (upd (upd (v_X7_plan_ok_4 n V) (113 + 2 * (pN n - (plK n (n 2 + V)))) U) 111 (nI (pN n + 1)))
def v_X7_plan_ok_6 (n : F1) (i : Nat) : F1 := (upd (va_cpy n n (112 + 2 * (pN n - i)) (114 + 2 * (pN n - i)) (2 * i)) (112 + 2 * (pN n - i)) (n (110 + 2 * (pN n - i))))
def f_X7_plan_ok (n : F1) (V : Int32) (U : Int32) : Int32 := ((v_X7_plan_ok_5 n V U) 111)
def f_X7_plan_ok_o (g : F1) (sv : Nat) : F1 := (f_X7_saves_o (f_X7_refused_o g 0) sv)
def f_X7_plan_ok_a (n : F1) (V : Int32) (U : Int32) : F1 := (v_X7_plan_ok_5 n V U)
def f_X7_plan_ok_b (n : F1) (pa : F1) (sv : Nat) : F1 := (f_X7_saves_b n pa sv)
theorem plan_ok {n : F1} {V U : Int32} (hM : MOK n) (h10 : ¬ n 111 = 10) : MOK (f_X7_plan_ok_a n V U) := by
  have h9 := pN_ne hM h10
  have hpk := plK_le (n := n) (n 2 + V)
  exact MOK_111 (by omega) (MOK_p (by omega) (MOK_p (by omega) (MOK_psh hM (by omega) (by omega))))
theorem ok_X7_plan_ok_a (n : F1) (V : Int32) (U : Int32) (hM : MOK n) (h10 : ¬ n 111 = 10) : MOK (f_X7_plan_ok_a n V U) := plan_ok hM h10
set_option maxHeartbeats 4000000 in
set_option maxRecDepth 100000 in
theorem c_X7_plan_ok (l : Launch) (D : va_G) (ty : Nat → ClassId) (o : Nat) (a : Nat) (b : Nat) (c_ : Nat) (g : F1) (hs : Int64) (n : F1) (pa : F1) (sv : Nat) (V : Int32) (U : Int32) (hs9 : g 0 = nI sv) (hsv : sv ≤ 3) (hM : MOK n) (hv : planOK V U = 1) (h10 : ¬ n 111 = 10) : MC l D ty yX7_plan cX7_plan 6 (some .int) 1 [.ref o, .int V, .int U] [(o, moE g hs a b c_), (a, arE ty 253 n), (b, arE ty 759 pa)] (some (.int (f_X7_plan_ok n V U))) [(o, moE (f_X7_plan_ok_o g sv) hs a b c_), (a, arE ty 253 (f_X7_plan_ok_a n V U)), (b, arE ty 759 (f_X7_plan_ok_b n pa sv))] := by
  refine mc_i (by decide +kernel) (Nat.le_of_ble_eq_true rfl) ?_
  intro p e s m args below meth c A Q ls C hK hA X hret hl
  have hx := C.1
  have hb := C.2.1
  have hl : lv_has ls 6 [(0, .ref o), (1, .int V), (2, .int U)] := hl
  have X : Wd D A s.heap [(o, moE g hs a b c_), (a, arE ty 253 n), (b, arE ty 759 pa)] s.heap [] := X
  obtain ⟨hn, hp⟩ := pN_eq hM
  have h9 := pN_ne hM h10
  have hpk := plK_le (n := n) (n 2 + V)
  refine lv_iload_n hx hb dX7_plan_0 rfl (lv_at hl 1 rfl) ?_
  refine lv_iconst (v := 1) hx hb dX7_plan_1 (by decide) ?_
  refine lv_sipush (v := 5000) hx hb dX7_plan_2 (by decide) ?_
  refine s_cS0i C hK hA X (c_X7_within l D ty V 1 5000) [] pk_n rfl sl_X7_within wm_X7_37 ⟨Nat.le_of_ble_eq_true rfl, Nat.le_of_ble_eq_true rfl⟩ ⟨Nat.zero_le _, Nat.zero_le _⟩ hl.1 rfl (Nat.le_of_ble_eq_true rfl) dX7_plan_5 (fun H locs X => ?_)
  have J27_2 : ∀ (x1 : Int32) (ls : Array Slot) (H : Heap) (locs : List Loc), x1 = (v_X7_plan_ok_1 V U) → lv_has ls 6 [(0, .ref o), (1, .int V), (2, .int U)] → Wd D A s.heap [(o, moE g hs a b c_), (a, arE ty 253 n), (b, arE ty 759 pa)] H locs → W p l e (rmD 1) s m args below meth c H locs 0 0 Q (F0 m 27 ls [.int x1]) := by
    intro x1 ls H locs ex1 hl X
    replace ex1 := ex1.symm; subst ex1
    refine s_eqi (y := 1) (hv) ?_
    refine lv_istore_n (lv' := [(3, .int 1), (0, .ref o), (1, .int V), (2, .int U)]) hx hb dX7_plan_27 rfl hl (by decide) rfl (fun ls hl => ?_)
    refine lv_aload_n hx hb dX7_plan_28 rfl (lv_at hl 1 rfl) ?_
    refine lv_iload_n hx hb dX7_plan_29 rfl (lv_at hl 0 rfl) ?_
    refine lv_if_ne (tgt := 37) hx hb dX7_plan_30 (by decide) (fun _ => ?_) (fun c0 => absurd c0 (by decide))
    refine lv_aload_n hx hb dX7_plan_37 rfl (lv_at hl 1 rfl) ?_
    refine get_mo_0 C hK X 0 rfl fl_X7_7 dX7_plan_38 ?_
    refine lv_bipush (v := 111) hx hb dX7_plan_41 (by decide) ?_
    refine s_ialN C hK X 1 111 rfl rfl (by decide) (by decide) dX7_plan_43 ?_
    refine lv_bipush (v := 10) hx hb dX7_plan_44 (by decide) ?_
    refine lv_icmp_ne (tgt := 53) hx hb dX7_plan_46 (by decide) (fun _ => ?_) (fun c0 => absurd c0 h10)
    refine lv_iconst (v := 0) hx hb dX7_plan_53 (by decide) ?_
    refine s_cVi (ws' := [(o, moE (f_X7_refused_o g 0) hs a b c_), (a, arE ty 253 n), (b, arE ty 759 pa)]) C hK hA X (c_X7_refused l D ty o a b c_ g hs 0) [0] (pk_c rfl pk_n) rfl (pk_c rfl pk_n) (em_t (em_f (em_f em_n))) rfl ml_X7_refused wm_X7_29 (q0 := 0) rfl rfl rfl ⟨Nat.le_of_ble_eq_true rfl, Nat.le_of_ble_eq_true rfl⟩ ⟨Nat.zero_le _, Nat.zero_le _⟩ hl.1 rfl (Nat.le_of_ble_eq_true rfl) dX7_plan_54 (fun H locs X => ?_)
    refine s_eqi (y := 0) (by decide) ?_
    refine lv_if_eq (tgt := 62) hx hb dX7_plan_57 (by decide) (fun _ => ?_) (fun c0 => absurd (by decide) c0)
    refine lv_aload_n hx hb dX7_plan_62 rfl (lv_at hl 1 rfl) ?_
    refine s_cVv (ws' := [(o, moE (f_X7_saves_o (f_X7_refused_o g 0) sv) hs a b c_), (a, arE ty 253 n), (b, arE ty 759 (f_X7_saves_b n pa sv))]) C hK hA X (c_X7_saves l D ty o a b c_ (f_X7_refused_o g 0) hs n pa sv ((pk_un (by decide)).trans hs9) hsv) [0, 1, 2] (pk_c rfl (pk_c rfl (pk_c rfl pk_n))) rfl (pk_c rfl (pk_c rfl (pk_c rfl pk_n))) (em_t (em_t (em_t em_n))) rfl ml_X7_saves wm_X7_143 (q0 := 0) rfl rfl rfl ⟨Nat.le_of_ble_eq_true rfl, Nat.le_of_ble_eq_true rfl⟩ ⟨Nat.zero_le _, Nat.zero_le _⟩ hl.1 rfl (Nat.le_of_ble_eq_true rfl) dX7_plan_63 (fun H locs X => ?_)
    refine lv_aload_n hx hb dX7_plan_66 rfl (lv_at hl 1 rfl) ?_
    refine get_mo_0 C hK X 0 rfl fl_X7_7 dX7_plan_67 ?_
    refine lv_iconst (v := 2) hx hb dX7_plan_70 (by decide) ?_
    refine s_ialN C hK X 1 2 rfl rfl (by decide) (by decide) dX7_plan_71 ?_
    refine lv_iload_n hx hb dX7_plan_72 rfl (lv_at hl 2 rfl) ?_
    refine lv_iadd hx hb dX7_plan_73 ?_
    refine lv_istore (lv' := [(4, .int ((n 2) + V)), (3, .int 1), (0, .ref o), (1, .int V), (2, .int U)]) hx hb dX7_plan_74 hl (by decide) rfl (fun ls hl => ?_)
    refine lv_aload_n hx hb dX7_plan_76 rfl (lv_at hl 2 rfl) ?_
    refine get_mo_0 C hK X 0 rfl fl_X7_7 dX7_plan_77 ?_
    refine lv_bipush (v := 111) hx hb dX7_plan_80 (by decide) ?_
    refine s_ialN C hK X 1 111 rfl rfl (by decide) (by decide) dX7_plan_82 ?_
    refine s_eqi (y := nI (pN n)) (hn) ?_
    refine lv_istore (lv' := [(5, .int (nI (pN n))), (4, .int ((n 2) + V)), (3, .int 1), (0, .ref o), (1, .int V), (2, .int U)]) hx hb dX7_plan_83 hl (by decide) rfl (fun ls hl => ?_)
    have K3 : ∀ (y3_0 : Int32) (y3_1 : F1) (ls : Array Slot) (H : Heap) (locs : List Loc), y3_0 = (nI (pN n - (plK n (n 2 + V)))) → y3_1 = (va_cpy n n (112 + 2 * (pN n - (plK n (n 2 + V)))) (114 + 2 * (pN n - (plK n (n 2 + V)))) (2 * (plK n (n 2 + V)))) → lv_has ls 6 [(5, .int y3_0), (4, .int ((n 2) + V)), (0, .ref o), (1, .int V), (2, .int U)] → Wd D A s.heap [(o, moE (f_X7_saves_o (f_X7_refused_o g 0) sv) hs a b c_), (a, arE ty 253 y3_1), (b, arE ty 759 (f_X7_saves_b n pa sv))] H locs → W p l e (rmD 1) s m args below meth c H locs 0 0 Q (F0 m 169 ls []) := by
      intro y3_0 y3_1 ls H locs ey3_0 ey3_1 hl X
      replace ey3_0 := ey3_0.symm; subst ey3_0; replace ey3_1 := ey3_1.symm; subst ey3_1
      refine lv_aload_n hx hb dX7_plan_169 rfl (lv_at hl 2 rfl) ?_
      refine get_mo_0 C hK X 0 rfl fl_X7_7 dX7_plan_170 ?_
      refine lv_bipush (v := 112) hx hb dX7_plan_173 (by decide) ?_
      refine lv_iconst (v := 2) hx hb dX7_plan_175 (by decide) ?_
      refine lv_iload hx hb dX7_plan_176 (lv_at hl 0 rfl) ?_
      refine lv_imul hx hb dX7_plan_178 ?_
      refine lv_iadd hx hb dX7_plan_179 ?_
      refine s_eqi (y := nI (112 + 2 * (pN n - (plK n (n 2 + V))))) (lin2 _) ?_
      refine lv_iload hx hb dX7_plan_180 (lv_at hl 1 rfl) ?_
      refine s_iasN C hK X 1 (112 + 2 * (pN n - (plK n (n 2 + V)))) rfl rfl (by omega) (by decide) dX7_plan_182 (fun H locs X => ?_)
      have X : Wd D A s.heap [(o, moE (f_X7_saves_o (f_X7_refused_o g 0) sv) hs a b c_), (a, arE ty 253 (v_X7_plan_ok_4 n V)), (b, arE ty 759 (f_X7_saves_b n pa sv))] H locs := X
      refine lv_aload_n hx hb dX7_plan_183 rfl (lv_at hl 2 rfl) ?_
      refine get_mo_0 C hK X 0 rfl fl_X7_7 dX7_plan_184 ?_
      refine lv_bipush (v := 112) hx hb dX7_plan_187 (by decide) ?_
      refine lv_iconst (v := 2) hx hb dX7_plan_189 (by decide) ?_
      refine lv_iload hx hb dX7_plan_190 (lv_at hl 0 rfl) ?_
      refine lv_imul hx hb dX7_plan_192 ?_
      refine lv_iadd hx hb dX7_plan_193 ?_
      refine s_eqi (y := nI (112 + 2 * (pN n - (plK n (n 2 + V))))) (lin2 _) ?_
      refine lv_iconst (v := 1) hx hb dX7_plan_194 (by decide) ?_
      refine lv_iadd hx hb dX7_plan_195 ?_
      refine s_eqi (y := nI (113 + 2 * (pN n - (plK n (n 2 + V))))) ((nI_1 _).trans (by congr 1; omega)) ?_
      refine lv_iload_n hx hb dX7_plan_196 rfl (lv_at hl 4 rfl) ?_
      refine s_iasN C hK X 1 (113 + 2 * (pN n - (plK n (n 2 + V)))) rfl rfl (by omega) (by decide) dX7_plan_197 (fun H locs X => ?_)
      have X : Wd D A s.heap [(o, moE (f_X7_saves_o (f_X7_refused_o g 0) sv) hs a b c_), (a, arE ty 253 (upd (v_X7_plan_ok_4 n V) (113 + 2 * (pN n - (plK n (n 2 + V)))) U)), (b, arE ty 759 (f_X7_saves_b n pa sv))] H locs := X
      refine lv_aload_n hx hb dX7_plan_198 rfl (lv_at hl 2 rfl) ?_
      refine get_mo_0 C hK X 0 rfl fl_X7_7 dX7_plan_199 ?_
      refine lv_bipush (v := 111) hx hb dX7_plan_202 (by decide) ?_
      refine lv_dup2_11 hx hb dX7_plan_204 rfl rfl ?_
      refine s_ialN C hK X 1 111 rfl rfl (by decide) (by decide) dX7_plan_205 ?_
      refine s_eqi (y := nI (pN n)) (plan_rd hM) ?_
      refine lv_iconst (v := 1) hx hb dX7_plan_206 (by decide) ?_
      refine lv_iadd hx hb dX7_plan_207 ?_
      refine s_eqi (y := nI (pN n + 1)) (nI_1 _) ?_
      refine s_iasN C hK X 1 111 rfl rfl (by decide) (by decide) dX7_plan_208 (fun H locs X => ?_)
      have X : Wd D A s.heap [(o, moE (f_X7_saves_o (f_X7_refused_o g 0) sv) hs a b c_), (a, arE ty 253 (v_X7_plan_ok_5 n V U)), (b, arE ty 759 (f_X7_saves_b n pa sv))] H locs := X
      refine lv_aload_n hx hb dX7_plan_209 rfl (lv_at hl 2 rfl) ?_
      refine get_mo_0 C hK X 0 rfl fl_X7_7 dX7_plan_210 ?_
      refine lv_bipush (v := 111) hx hb dX7_plan_213 (by decide) ?_
      refine s_ialN C hK X 1 111 rfl rfl (by decide) (by decide) dX7_plan_215 ?_
      have e_0_0 : (f_X7_plan_ok_o g sv) = (f_X7_saves_o (f_X7_refused_o g 0) sv) := by first | (rw [f_X7_plan_ok_o]; done) | (rw [f_X7_plan_ok_o]; rfl) | (simp only [f_X7_plan_ok_o]; done)
      have e_1_0 : (f_X7_plan_ok_a n V U) = (v_X7_plan_ok_5 n V U) := by first | (rw [f_X7_plan_ok_a]; done) | (rw [f_X7_plan_ok_a]; rfl) | (simp only [f_X7_plan_ok_a]; done)
      have e_2_1 : (f_X7_plan_ok_b n pa sv) = (f_X7_saves_b n pa sv) := by first | (rw [f_X7_plan_ok_b]; done) | (rw [f_X7_plan_ok_b]; rfl) | (simp only [f_X7_plan_ok_b]; done)
      exact hret _ _ _ _ _ _ dX7_plan_216 X (by rw [e_0_0, e_1_0, e_2_1]) (by first | (rw [f_X7_plan_ok]; done) | (rw [f_X7_plan_ok]; rfl) | (simp only [f_X7_plan_ok]; done))
    have L3 : ∀ (kf i : Nat) (y3_0 : Int32) (y3_1 : F1) (ls : Array Slot) (H : Heap) (locs : List Loc), 10 - i < kf → (i ≤ pN n ∧ scanB (plP n (n 2 + V)) (10 - i) i = plK n (n 2 + V)) → y3_0 = (nI (pN n - i)) → y3_1 = (va_cpy n n (112 + 2 * (pN n - i)) (114 + 2 * (pN n - i)) (2 * i)) → lv_has ls 6 [(5, .int y3_0), (4, .int ((n 2) + V)), (0, .ref o), (1, .int V), (2, .int U)] → Wd D A s.heap [(o, moE (f_X7_saves_o (f_X7_refused_o g 0) sv) hs a b c_), (a, arE ty 253 y3_1), (b, arE ty 759 (f_X7_saves_b n pa sv))] H locs → W p l e (rmD 1) s m args below meth c H locs 0 0 Q (F0 m 85 ls []) := by
      intro kf
      induction kf with
      | zero => intro i y3_0 y3_1 ls H locs hk; exact absurd hk (Nat.not_lt_zero _)
      | succ kf ih3 =>
        intro i y3_0 y3_1 ls H locs hk hI ey3_0 ey3_1 hl X
        replace ey3_0 := ey3_0.symm; subst ey3_0; replace ey3_1 := ey3_1.symm; subst ey3_1
        obtain ⟨hI1, hI2⟩ := hI
        refine lv_iload hx hb dX7_plan_85 (lv_at hl 0 rfl) ?_
        refine lv_if_le (tgt := 169) hx hb dX7_plan_87 (by decide) (fun c0_0 => ?_) (fun c0_0 => ?_)
        · have hE : plK n (n 2 + V) = i := by rw [← hI2]; exact scan_stop (by simp [plP, c0_0])
          exact K3 (nI (pN n - i)) (va_cpy n n (112 + 2 * (pN n - i)) (114 + 2 * (pN n - i)) (2 * i)) _ _ _ (by rw [hE]) (by rw [hE]) (lv_sub hl [0, 1, 2, 3, 4] rfl) X
        · have h0 : 0 < pN n - i := pos_of (by omega) c0_0
          refine lv_aload_n hx hb dX7_plan_90 rfl (lv_at hl 2 rfl) ?_
          refine get_mo_0 C hK X 0 rfl fl_X7_7 dX7_plan_91 ?_
          refine lv_bipush (v := 112) hx hb dX7_plan_94 (by decide) ?_
          refine lv_iconst (v := 2) hx hb dX7_plan_96 (by decide) ?_
          refine lv_iload hx hb dX7_plan_97 (lv_at hl 0 rfl) ?_
          refine lv_imul hx hb dX7_plan_99 ?_
          refine lv_iadd hx hb dX7_plan_100 ?_
          refine s_eqi (y := nI (112 + 2 * (pN n - i))) (lin2 _) ?_
          refine lv_iconst (v := 2) hx hb dX7_plan_101 (by decide) ?_
          refine lv_isub hx hb dX7_plan_102 ?_
          refine s_eqi (y := nI (110 + 2 * (pN n - i))) (sb2 (by omega)) ?_
          refine s_ialN C hK X 1 (110 + 2 * (pN n - i)) rfl rfl (by omega) (by decide) dX7_plan_103 ?_
          refine s_eqi (y := n (110 + 2 * (pN n - i))) (cpy_lo (by omega)) ?_
          refine lv_iload hx hb dX7_plan_104 (lv_at hl 1 rfl) ?_
          refine lv_icmp_le (tgt := 169) hx hb dX7_plan_106 (by decide) (fun c1_1 => ?_) (fun c1_1 => ?_)
          · have hE : plK n (n 2 + V) = i := by rw [← hI2]; exact scan_stop (by simp [plP, c1_1])
            exact K3 (nI (pN n - i)) (va_cpy n n (112 + 2 * (pN n - i)) (114 + 2 * (pN n - i)) (2 * i)) _ _ _ (by rw [hE]) (by rw [hE]) (lv_sub hl [0, 1, 2, 3, 4] rfl) X
          · refine lv_aload_n hx hb dX7_plan_109 rfl (lv_at hl 2 rfl) ?_
            refine get_mo_0 C hK X 0 rfl fl_X7_7 dX7_plan_110 ?_
            refine lv_bipush (v := 112) hx hb dX7_plan_113 (by decide) ?_
            refine lv_iconst (v := 2) hx hb dX7_plan_115 (by decide) ?_
            refine lv_iload hx hb dX7_plan_116 (lv_at hl 0 rfl) ?_
            refine lv_imul hx hb dX7_plan_118 ?_
            refine lv_iadd hx hb dX7_plan_119 ?_
            refine s_eqi (y := nI (112 + 2 * (pN n - i))) (lin2 _) ?_
            refine lv_aload_n hx hb dX7_plan_120 rfl (lv_at hl 2 rfl) ?_
            refine get_mo_0 C hK X 0 rfl fl_X7_7 dX7_plan_121 ?_
            refine lv_bipush (v := 112) hx hb dX7_plan_124 (by decide) ?_
            refine lv_iconst (v := 2) hx hb dX7_plan_126 (by decide) ?_
            refine lv_iload hx hb dX7_plan_127 (lv_at hl 0 rfl) ?_
            refine lv_imul hx hb dX7_plan_129 ?_
            refine lv_iadd hx hb dX7_plan_130 ?_
            refine s_eqi (y := nI (112 + 2 * (pN n - i))) (lin2 _) ?_
            refine lv_iconst (v := 2) hx hb dX7_plan_131 (by decide) ?_
            refine lv_isub hx hb dX7_plan_132 ?_
            refine s_eqi (y := nI (110 + 2 * (pN n - i))) (sb2 (by omega)) ?_
            refine s_ialN C hK X 1 (110 + 2 * (pN n - i)) rfl rfl (by omega) (by decide) dX7_plan_133 ?_
            refine s_eqi (y := n (110 + 2 * (pN n - i))) (cpy_lo (by omega)) ?_
            refine s_iasN C hK X 1 (112 + 2 * (pN n - i)) rfl rfl (by omega) (by decide) dX7_plan_134 (fun H locs X => ?_)
            have X : Wd D A s.heap [(o, moE (f_X7_saves_o (f_X7_refused_o g 0) sv) hs a b c_), (a, arE ty 253 (v_X7_plan_ok_6 n i)), (b, arE ty 759 (f_X7_saves_b n pa sv))] H locs := X
            refine lv_aload_n hx hb dX7_plan_135 rfl (lv_at hl 2 rfl) ?_
            refine get_mo_0 C hK X 0 rfl fl_X7_7 dX7_plan_136 ?_
            refine lv_bipush (v := 112) hx hb dX7_plan_139 (by decide) ?_
            refine lv_iconst (v := 2) hx hb dX7_plan_141 (by decide) ?_
            refine lv_iload hx hb dX7_plan_142 (lv_at hl 0 rfl) ?_
            refine lv_imul hx hb dX7_plan_144 ?_
            refine lv_iadd hx hb dX7_plan_145 ?_
            refine s_eqi (y := nI (112 + 2 * (pN n - i))) (lin2 _) ?_
            refine lv_iconst (v := 1) hx hb dX7_plan_146 (by decide) ?_
            refine lv_iadd hx hb dX7_plan_147 ?_
            refine s_eqi (y := nI (113 + 2 * (pN n - i))) ((nI_1 _).trans (by congr 1; omega)) ?_
            refine lv_aload_n hx hb dX7_plan_148 rfl (lv_at hl 2 rfl) ?_
            refine get_mo_0 C hK X 0 rfl fl_X7_7 dX7_plan_149 ?_
            refine lv_bipush (v := 112) hx hb dX7_plan_152 (by decide) ?_
            refine lv_iconst (v := 2) hx hb dX7_plan_154 (by decide) ?_
            refine lv_iload hx hb dX7_plan_155 (lv_at hl 0 rfl) ?_
            refine lv_imul hx hb dX7_plan_157 ?_
            refine lv_iadd hx hb dX7_plan_158 ?_
            refine s_eqi (y := nI (112 + 2 * (pN n - i))) (lin2 _) ?_
            refine lv_iconst (v := 1) hx hb dX7_plan_159 (by decide) ?_
            refine lv_isub hx hb dX7_plan_160 ?_
            refine s_eqi (y := nI (111 + 2 * (pN n - i))) ((sb_m1s (by omega)).trans (by congr 1; omega)) ?_
            refine s_ialN C hK X 1 (111 + 2 * (pN n - i)) rfl rfl (by omega) (by decide) dX7_plan_161 ?_
            refine s_eqi (y := n (111 + 2 * (pN n - i))) ((pk_un (by omega)).trans (cpy_lo (by omega))) ?_
            refine s_iasN C hK X 1 (113 + 2 * (pN n - i)) rfl rfl (by omega) (by decide) dX7_plan_162 (fun H locs X => ?_)
            have X : Wd D A s.heap [(o, moE (f_X7_saves_o (f_X7_refused_o g 0) sv) hs a b c_), (a, arE ty 253 (upd (v_X7_plan_ok_6 n i) (113 + 2 * (pN n - i)) (n (111 + 2 * (pN n - i))))), (b, arE ty 759 (f_X7_saves_b n pa sv))] H locs := X
            refine lv_iinc (v := ((nI (pN n - i)) + (-1))) (lv' := [(5, .int ((nI (pN n - i)) + (-1))), (4, .int ((n 2) + V)), (0, .ref o), (1, .int V), (2, .int U)]) hx hb dX7_plan_163 hl (k := 0) rfl rfl (by decide) rfl (fun ls hl => ?_)
            refine lv_goto (tgt := 85) hx hb dX7_plan_166 (by decide) ?_
            have h0 : 0 < pN n - i := pos_of (by omega) c0_0
            have hP : plP n (n 2 + V) i = true := by simp only [plP, Bool.and_eq_true, decide_eq_true_eq]; exact ⟨c0_0, c1_1⟩
            exact ih3 (i + 1) ((nI (pN n - i)) + (-1)) (upd (v_X7_plan_ok_6 n i) (113 + 2 * (pN n - i)) (n (111 + 2 * (pN n - i)))) _ _ _ (by omega) ⟨by omega, by rw [← hI2, ← scan_go (k := 10 - i) (by omega) hP, show 10 - (i + 1) = 10 - i - 1 by omega]⟩ ((m1_1 (by omega)).trans (by rw [Nat.sub_sub])) (cpy_down2 (by omega)) (lv_sub hl [0, 1, 2, 3, 4] rfl) X
    exact L3 (10 + 1) 0 (nI (pN n)) n _ _ _ (by omega) ⟨Nat.zero_le _, rfl⟩ rfl cpy_0.symm (lv_sub hl [0, 1, 3, 4, 5] rfl) X
  refine lv_if_eq (tgt := 26) hx hb dX7_plan_8 (by decide) (fun c0_0 => ?_) (fun c0_0 => ?_)
  · refine lv_iconst (v := 0) hx hb dX7_plan_26 (by decide) ?_
    exact J27_2 0 _ _ _ (by first | (rw [v_X7_plan_ok_1, if_pos c0_0]; done) | (rw [v_X7_plan_ok_1, if_pos c0_0]; rfl) | (simp only [v_X7_plan_ok_1, if_pos c0_0]; done)) (lv_sub hl [0, 1, 2] rfl) X
  · refine lv_iload_n hx hb dX7_plan_11 rfl (lv_at hl 2 rfl) ?_
    refine lv_iconst (v := 0) hx hb dX7_plan_12 (by decide) ?_
    refine lv_sipush (v := 2000) hx hb dX7_plan_13 (by decide) ?_
    refine s_cS0i C hK hA X (c_X7_within l D ty U 0 2000) [] pk_n rfl sl_X7_within wm_X7_37 ⟨Nat.le_of_ble_eq_true rfl, Nat.le_of_ble_eq_true rfl⟩ ⟨Nat.zero_le _, Nat.zero_le _⟩ hl.1 rfl (Nat.le_of_ble_eq_true rfl) dX7_plan_16 (fun H locs X => ?_)
    refine lv_if_eq (tgt := 26) hx hb dX7_plan_19 (by decide) (fun c1_1 => ?_) (fun c1_1 => ?_)
    · refine lv_iconst (v := 0) hx hb dX7_plan_26 (by decide) ?_
      exact J27_2 0 _ _ _ (by first | (rw [v_X7_plan_ok_1, if_neg c0_0, if_pos c1_1]; done) | (rw [v_X7_plan_ok_1, if_neg c0_0, if_pos c1_1]; rfl) | (simp only [v_X7_plan_ok_1, if_neg c0_0, if_pos c1_1]; done)) (lv_sub hl [0, 1, 2] rfl) X
    · refine lv_iconst (v := 1) hx hb dX7_plan_22 (by decide) ?_
      refine lv_goto (tgt := 27) hx hb dX7_plan_23 (by decide) ?_
      exact J27_2 1 _ _ _ (by first | (rw [v_X7_plan_ok_1, if_neg c0_0, if_neg c1_1]; done) | (rw [v_X7_plan_ok_1, if_neg c0_0, if_neg c1_1]; rfl) | (simp only [v_X7_plan_ok_1, if_neg c0_0, if_neg c1_1]; done)) (lv_sub hl [0, 1, 2] rfl) X
