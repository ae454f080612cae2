/-! the phases -/
theorem five {x : Int32} (h : bd x 0 4) : x = 0 ∨ x = 1 ∨ x = 2 ∨ x = 3 ∨ x = 4 := by
  obtain ⟨h1, h2⟩ := h
  rcases (show x.toInt = 0 ∨ x.toInt = 1 ∨ x.toInt = 2 ∨ x.toInt = 3 ∨ x.toInt = 4 by omega) with e | e | e | e | e
  · exact Or.inl (tEq e)
  · exact Or.inr (Or.inl (tEq e))
  · exact Or.inr (Or.inr (Or.inl (tEq e)))
  · exact Or.inr (Or.inr (Or.inr (Or.inl (tEq e))))
  · exact Or.inr (Or.inr (Or.inr (Or.inr (tEq e))))
theorem next_eq {j : Nat} {w fm n : F1} {tb : Int} {dm : Int32} (h : Rw j w fm n) (hI : Iw j tb n) (h11 : w 11 = f_X7_acceleration n j) (h12 : w 12 = f_X7_estimated n j) (hd : dm = n 3) : (if f_X7_isControlled n j = 0 then 0 else f_X1_phaseAfter w dm) = f_X7_nextOf n j := by
  unfold f_X7_nextOf
  by_cases c : f_X7_isControlled n j = 0
  · rw [if_pos c, if_pos c]
  · rw [if_neg c, if_neg c]
    unfold f_X1_phaseAfter v_X1_phaseAfter_1 v_X7_nextOf_1
    rw [h11, h12, h.1 2 (by omega), h.1 1 (by omega), hd]
    have hf := five hI.2.1
    generalize f_X7_acceleration n j = ac
    generalize f_X7_estimated n j = es
    generalize n (10 + 16 * j + 1) = pp
    generalize n 3 = dd
    generalize n (10 + 16 * j + 2) = ps at hf ⊢
    rcases hf with e | e | e | e | e <;> subst e
    · simp only [if_true, if_neg (show ¬ (0 : Int32) = 1 by decide), if_neg (show ¬ (0 : Int32) = 2 by decide), if_neg (show ¬ (0 : Int32) = 3 by decide), if_neg (show ¬ (0 : Int32) = 4 by decide), if_pos (show (0 : Int32) = 0 by rfl)]
    · simp only [if_true, if_pos (show (1 : Int32) = 1 by rfl), if_neg (show ¬ (1 : Int32) = 0 by decide)]
    · simp only [if_true, if_neg (show ¬ (2 : Int32) = 1 by decide), if_pos (show (2 : Int32) = 2 by rfl), if_neg (show ¬ (2 : Int32) = 0 by decide)]
    · simp only [if_true, if_neg (show ¬ (3 : Int32) = 1 by decide), if_neg (show ¬ (3 : Int32) = 2 by decide), if_pos (show (3 : Int32) = 3 by rfl), if_neg (show ¬ (3 : Int32) = 0 by decide)]
    · simp only [if_true, if_neg (show ¬ (4 : Int32) = 1 by decide), if_neg (show ¬ (4 : Int32) = 2 by decide), if_neg (show ¬ (4 : Int32) = 3 by decide), if_pos (show (4 : Int32) = 4 by rfl), if_neg (show ¬ (4 : Int32) = 0 by decide)]
theorem next_bd (n : F1) (j : Nat) : bd (f_X7_nextOf n j) 0 4 := by
  unfold f_X7_nextOf
  (repeat' split) <;> exact ⟨by decide, by decide⟩
theorem excl_eq {w0 w1 w2 w3 n : F1} (h0 : w0 7 = n 17) (h1 : w1 7 = n 33) (h2 : w2 7 = n 49) (h3 : w3 7 = n 65) (b0 : isB (n 17)) (b1 : isB (n 33)) (b2 : isB (n 49)) (b3 : isB (n 65)) : f_X1_excludedWheels w0 w1 w2 w3 = f_X7_outs n := by
  unfold f_X1_excludedWheels v_X1_excludedWheels_7 v_X1_excludedWheels_5 v_X1_excludedWheels_3 v_X1_excludedWheels_1 f_X7_outs
  rw [h0, h1, h2, h3]
  rcases b0 with e0 | e0 <;> rcases b1 with e1 | e1 <;> rcases b2 with e2 | e2 <;> rcases b3 with e3 | e3 <;> rw [e0, e1, e2, e3] <;> decide
theorem act_eq {z w0 w1 w2 w3 n : F1} {dm : Int32} (hz0 : z 0 = n 4) (hz4 : z 4 = n 8) (b8 : isB (n 8)) (hd : dm = n 3) (h0 : w0 7 = n 17) (h1 : w1 7 = n 33) (h2 : w2 7 = n 49) (h3 : w3 7 = n 65) (b0 : isB (n 17)) (b1 : isB (n 33)) (b2 : isB (n 49)) (b3 : isB (n 65)) : f_X1_isActive z w0 w1 w2 w3 dm = f_X7_isActive n := by
  unfold f_X1_isActive f_X7_isActive
  rw [excl_eq h0 h1 h2 h3 b0 b1 b2 b3, hz4, hz0, hd]
  rcases b8 with e | e
  · rw [if_pos e, if_neg (by rw [e]; decide)]
  · rw [if_neg (by rw [e]; decide), if_pos e]
theorem front_eq {w0 w1 n : F1} (h0 : w0 7 = n 17) (h1 : w1 7 = n 33) (b0 : isB (n 17)) (b1 : isB (n 33)) : f_X1_isFrontExcluded w0 w1 = f_X7_isAxleOut n 0 := by
  unfold f_X1_isFrontExcluded
  rw [h0, h1]
  show _ = (if n 17 + n 33 ≤ 0 then 0 else 1)
  rcases b0 with e0 | e0 <;> rcases b1 with e1 | e1 <;> rw [e0, e1] <;> decide
theorem rear_eq {w2 w3 n : F1} (h2 : w2 7 = n 49) (h3 : w3 7 = n 65) (b2 : isB (n 49)) (b3 : isB (n 65)) : f_X1_isRearExcluded w2 w3 = f_X7_isAxleOut n 2 := by
  unfold f_X1_isRearExcluded
  rw [h2, h3]
  show _ = (if n 49 + n 65 ≤ 0 then 0 else 1)
  rcases b2 with e0 | e0 <;> rcases b3 with e1 | e1 <;> rw [e0, e1] <;> decide
theorem urg_eq (ph : Int32) : f_X1_urgency ph = f_X7_rank ph := by
  unfold f_X1_urgency f_X7_rank
  by_cases a : ph = 1
  · rw [if_pos a, if_neg (by rw [a]; decide), if_pos a]
  · rw [if_neg a]
    by_cases b : ph = 2
    · rw [if_pos b, if_pos b]
    · rw [if_neg b, if_neg b, if_neg a]
theorem low_eq (x y : Int32) : (if f_X1_urgency y < f_X1_urgency x then y else x) = (if f_X7_rank x ≤ f_X7_rank y then x else y) := by
  rw [urg_eq, urg_eq]
  by_cases c : f_X7_rank x ≤ f_X7_rank y
  · rw [if_pos c, if_neg (fun z => by have := lt_iff.mp z; have := le_iff.mp c; omega)]
  · rw [if_neg c, if_pos (lt_iff.mpr (by have : ¬ _ := fun z => c (le_iff.mpr z); omega))]
/-- the wheel's next phase lies in its place 14; nothing else has changed -/
def C14 (w w' : F1) (ph : Int32) : Prop := w' 14 = ph ∧ ∀ k, k ≠ 14 → w' k = w k
theorem st_choose {z w0 w1 w2 w3 f0 f1 f2 f3 n : F1} {tb : Int} {dm : Int32} (hz0 : z 0 = n 4) (hz4 : z 4 = n 8) (b8 : isB (n 8)) (hd : dm = n 3)
    (r0 : Rw 0 w0 f0 n) (r1 : Rw 1 w1 f1 n) (r2 : Rw 2 w2 f2 n) (r3 : Rw 3 w3 f3 n) (i0 : Iw 0 tb n) (i1 : Iw 1 tb n) (i2 : Iw 2 tb n) (i3 : Iw 3 tb n)
    (a0 : w0 11 = f_X7_acceleration n 0) (a1 : w1 11 = f_X7_acceleration n 1) (a2 : w2 11 = f_X7_acceleration n 2) (a3 : w3 11 = f_X7_acceleration n 3)
    (e0 : w0 12 = f_X7_estimated n 0) (e1 : w1 12 = f_X7_estimated n 1) (e2 : w2 12 = f_X7_estimated n 2) (e3 : w3 12 = f_X7_estimated n 3) :
    C14 w0 (f_X1_choosePhases_a0 z w0 w1 w2 w3 dm) (f_X7_nextOf n 0) ∧ C14 w1 (f_X1_choosePhases_a1 z w0 w1 w2 w3 dm) (f_X7_nextOf n 1) ∧ C14 w2 (f_X1_choosePhases_a2 z w0 w1 w2 w3 dm) (v_X7_phases_4 n) ∧ C14 w3 (f_X1_choosePhases_a3 z w0 w1 w2 w3 dm) (v_X7_phases_3 n) := by
  have h0 : w0 7 = n 17 := r0.1 7 (by omega)
  have h1 : w1 7 = n 33 := r1.1 7 (by omega)
  have h2 : w2 7 = n 49 := r2.1 7 (by omega)
  have h3 : w3 7 = n 65 := r3.1 7 (by omega)
  have b0 : isB (n 17) := i0.2.2.2.1
  have b1 : isB (n 33) := i1.2.2.2.1
  have b2 : isB (n 49) := i2.2.2.2.1
  have b3 : isB (n 65) := i3.2.2.2.1
  have ha := act_eq hz0 hz4 b8 hd h0 h1 h2 h3 b0 b1 b2 b3
  have c1 : v_X1_choosePhases_1 z w0 w1 w2 w3 dm = f_X7_isControlled n 0 := by
    unfold v_X1_choosePhases_1 f_X7_isControlled; rw [ha, front_eq h0 h1 b0 b1]
  have c3 : v_X1_choosePhases_3 z w0 w1 w2 w3 dm = f_X7_isControlled n 2 := by
    unfold v_X1_choosePhases_3 f_X7_isControlled; rw [ha, rear_eq h2 h3 b2 b3]
  have k1 : f_X7_isControlled n 1 = f_X7_isControlled n 0 := rfl
  have k3 : f_X7_isControlled n 3 = f_X7_isControlled n 2 := rfl
  have v5 : v_X1_choosePhases_5 z w0 w1 w2 w3 dm = f_X7_nextOf n 0 := by
    unfold v_X1_choosePhases_5; rw [c1]; exact next_eq r0 i0 a0 e0 hd
  have v7 : v_X1_choosePhases_7 z w0 w1 w2 w3 dm = f_X7_nextOf n 1 := by
    unfold v_X1_choosePhases_7; rw [c1, ← k1]; exact next_eq r1 i1 a1 e1 hd
  have v9 : v_X1_choosePhases_9 z w0 w1 w2 w3 dm = f_X7_nextOf n 2 := by
    unfold v_X1_choosePhases_9; rw [c3]; exact next_eq r2 i2 a2 e2 hd
  have v11 : v_X1_choosePhases_11 z w0 w1 w2 w3 dm = f_X7_nextOf n 3 := by
    unfold v_X1_choosePhases_11; rw [c3, ← k3]; exact next_eq r3 i3 a3 e3 hd
  have low : v_X1_selectLow_1 (upd w2 14 (f_X7_nextOf n 2)) (upd w3 14 (f_X7_nextOf n 3)) = v_X7_phases_1 n := by
    unfold v_X1_selectLow_1 v_X7_phases_1
    rw [pk_us, pk_us]; exact low_eq _ _
  refine ⟨⟨?_, fun k hk => ?_⟩, ⟨?_, fun k hk => ?_⟩, ⟨?_, fun k hk => ?_⟩, ⟨?_, fun k hk => ?_⟩⟩
  · unfold f_X1_choosePhases_a0; rw [pk_us, v5]
  · unfold f_X1_choosePhases_a0; exact pk_un hk
  · unfold f_X1_choosePhases_a1; rw [pk_us, v7]
  · unfold f_X1_choosePhases_a1; exact pk_un hk
  · unfold f_X1_choosePhases_a2 v_X7_phases_4 v_X1_choosePhases_13 f_X1_selectLow_a2
    rw [c3, v9, v11, k3]
    by_cases c : f_X7_isControlled n 2 = 0
    · rw [if_pos c, if_pos c, pk_us]
    · rw [if_neg c, if_neg c, if_neg c, pk_us, low]
  · unfold f_X1_choosePhases_a2 v_X1_choosePhases_13 f_X1_selectLow_a2
    split
    · exact pk_un hk
    · rw [pk_un hk]; exact pk_un hk
  · unfold f_X1_choosePhases_a3 v_X7_phases_3 v_X1_choosePhases_15 f_X1_selectLow_a3
    rw [c3, v9, v11, k3]
    by_cases c : f_X7_isControlled n 2 = 0
    · rw [if_pos c, if_pos c, pk_us]
    · rw [if_neg c, if_neg c, if_neg c, pk_us, low]
  · unfold f_X1_choosePhases_a3 v_X1_choosePhases_15 f_X1_selectLow_a3
    split
    · exact pk_un hk
    · rw [pk_un hk]; exact pk_un hk
theorem ph4_bd (n : F1) : bd (v_X7_phases_4 n) 0 4 ∧ bd (v_X7_phases_3 n) 0 4 := by
  have a := next_bd n 2
  have b := next_bd n 3
  unfold v_X7_phases_4 v_X7_phases_3 v_X7_phases_1
  generalize f_X7_nextOf n 2 = x at a ⊢
  generalize f_X7_nextOf n 3 = y at b ⊢
  generalize f_X7_isControlled n 2 = c2
  generalize f_X7_isControlled n 3 = c3
  constructor <;> ((repeat' split) <;> first | exact a | exact b)
/-! entering a phase -/
def entW (w : F1) : F1 := if w 14 = w 2 then upd w 3 (w 3 + 1) else f_X5_enter_h w (w 14)
def entL (T j10 : Int32) (w : F1) (L : LogS) : LogS := if w 14 = w 2 then L else addL L T 0 (j10 + (f_X5_enter_h w (w 14)) 2)
theorem ent2 (w : F1) (ph : Int32) : (f_X5_enter_h w ph) 2 = ph := by
  unfold f_X5_enter_h
  split
  · rw [pk_un (by decide), pk_un (by decide), pk_un (by decide), pk_us]
  · rw [pk_un (by decide), pk_un (by decide), pk_us]
section
variable (fi lc : Nat) (w0 w1 w2 w3 lt lk lv : F1) (T : Int32)
theorem entL0 : (v_X1_enterPhases_2 fi lc w0, v_X1_enterPhases_3 lc w0, v_X1_enterPhases_4 fi lc w0 lt T, v_X1_enterPhases_5 fi lc w0 lk, v_X1_enterPhases_6 fi lc w0 lv) = entL T 0 w0 (fi, lc, lt, lk, lv) := by
  unfold entL v_X1_enterPhases_2 v_X1_enterPhases_3 v_X1_enterPhases_4 v_X1_enterPhases_5 v_X1_enterPhases_6
  by_cases c : w0 14 = w0 2
  · simp only [if_pos c]
  · simp only [if_neg c]; rfl
theorem entL1 : (v_X1_enterPhases_14 fi lc w0 w1, v_X1_enterPhases_15 lc w0 w1, v_X1_enterPhases_16 fi lc w0 w1 lt T, v_X1_enterPhases_17 fi lc w0 w1 lk, v_X1_enterPhases_18 fi lc w0 w1 lv) = entL T 10 w1 (entL T 0 w0 (fi, lc, lt, lk, lv)) := by
  rw [← entL0]
  unfold entL v_X1_enterPhases_14 v_X1_enterPhases_15 v_X1_enterPhases_16 v_X1_enterPhases_17 v_X1_enterPhases_18 v_X1_enterPhases_10 v_X1_enterPhases_11 v_X1_enterPhases_12
  by_cases c : w1 14 = w1 2
  · simp only [if_pos c]
  · simp only [if_neg c]; rfl
theorem entL2 : (v_X1_enterPhases_26 fi lc w0 w1 w2, v_X1_enterPhases_27 lc w0 w1 w2, v_X1_enterPhases_28 fi lc w0 w1 w2 lt T, v_X1_enterPhases_29 fi lc w0 w1 w2 lk, v_X1_enterPhases_30 fi lc w0 w1 w2 lv) = entL T 20 w2 (entL T 10 w1 (entL T 0 w0 (fi, lc, lt, lk, lv))) := by
  rw [← entL1]
  unfold entL v_X1_enterPhases_26 v_X1_enterPhases_27 v_X1_enterPhases_28 v_X1_enterPhases_29 v_X1_enterPhases_30 v_X1_enterPhases_22 v_X1_enterPhases_23 v_X1_enterPhases_24
  by_cases c : w2 14 = w2 2
  · simp only [if_pos c]
  · simp only [if_neg c]; rfl
theorem entL3 : (f_X1_enterPhases_al_fi fi lc w0 w1 w2 w3, f_X1_enterPhases_al_lc lc w0 w1 w2 w3, f_X1_enterPhases_t fi lc w0 w1 w2 w3 lt T, f_X1_enterPhases_k fi lc w0 w1 w2 w3 lk, f_X1_enterPhases_v fi lc w0 w1 w2 w3 lv) = entL T 30 w3 (entL T 20 w2 (entL T 10 w1 (entL T 0 w0 (fi, lc, lt, lk, lv)))) := by
  rw [← entL2]
  unfold f_X1_enterPhases_al_fi f_X1_enterPhases_al_lc f_X1_enterPhases_t f_X1_enterPhases_k f_X1_enterPhases_v entL v_X1_enterPhases_38 v_X1_enterPhases_39 v_X1_enterPhases_40 v_X1_enterPhases_41 v_X1_enterPhases_42 v_X1_enterPhases_34 v_X1_enterPhases_35 v_X1_enterPhases_36
  by_cases c : w3 14 = w3 2
  · simp only [if_pos c]
  · simp only [if_neg c]; rfl
end
theorem st_become {j : Nat} {w fm n : F1} {L : LogS} {tb : Int} {T ph j10 : Int32} (hM : MOK n) (hj : j < 4) (hT : T = n 2) (h10 : j10 = 10 * nI j) (h14 : w 14 = ph) (hp : bd ph 0 4) (htb : tb < 2000000000) (h : Rw j w fm n) (hI : Iw j tb n) (hL : Rl L n) :
    Rw j (entW w) fm (f_X7_becomes_a n j ph) ∧ Rl (entL T j10 w L) (f_X7_becomes_a n j ph) ∧ Iw j (tb + 1) (f_X7_becomes_a n j ph) ∧ (∀ k, 6 ≤ k → entW w k = w k) ∧ MOK (f_X7_becomes_a n j ph) ∧ (∀ q, q < 132 → (q < 10 + 16 * j + 2 ∨ 10 + 16 * j + 6 ≤ q) → f_X7_becomes_a n j ph q = n q) := by
  obtain ⟨hk, h5⟩ := kN_eq hM hj
  have h2 := h.1 2 (by omega)
  obtain ⟨a1, a2, a3, a4, a5, a6⟩ := hI
  have t3 : (n (10 + 16 * j + 3) + 1).toInt = (n (10 + 16 * j + 3)).toInt + 1 := tA (by have := a3.1; show _ ≤ _ + (1 : Int); omega) (by have := a3.2; show _ + (1 : Int) < _; omega)
  by_cases c : ph = n (10 + 16 * j + 2)
  · have eN' : f_X7_becomes_a n j ph = upd n (10 + 16 * j + 3) (n (10 + 16 * j + 3) + 1) := by unfold f_X7_becomes_a; rw [if_pos c]; rfl
    have eW : entW w = upd w 3 (n (10 + 16 * j + 3) + 1) := by unfold entW; rw [if_pos (by rw [h14, h2]; exact c), h.1 3 (by omega)]
    have eL : entL T j10 w L = L := by unfold entL; rw [if_pos (by rw [h14, h2]; exact c)]
    have out : ∀ q, q ≠ 10 + 16 * j + 3 → f_X7_becomes_a n j ph q = n q := fun q hq => by rw [eN']; exact pk_un hq
    have ek : kN j (f_X7_becomes_a n j ph) = kN j n := by unfold kN; rw [out _ (by omega)]
    refine ⟨⟨fun k hk => ?_, fun i hi => ?_⟩, ?_, ?_, fun k hk => by rw [eW]; exact pk_un (by omega), ?_, fun q _ hq => out q (by omega)⟩
    · rw [eW, eN']
      by_cases b : k = 3
      · subst b; rw [pk_us, pk_us]
      · rw [pk_un b, uw b]; exact h.1 k hk
    · rw [ek] at hi; rw [out _ (by omega)]; exact h.2 i hi
    · rw [eL, eN']; exact hL.ag (fun q a b => by rw [pk_un (by omega)]) (eN_eq hM).2
    · refine ⟨by rw [out _ (by omega)]; exact a1, by rw [out _ (by omega)]; exact a2, by rw [eN', pk_us]; unfold bd; rw [t3]; have := a3.1; have := a3.2; omega, by rw [out _ (by omega)]; exact a4, by rw [out _ (by omega)]; exact a5, fun i hi => ?_⟩
      rw [ek] at hi; rw [out _ (by omega)]; exact a6 i hi
    · rw [eN']; exact MOK_w hj (by decide) hM
  · have c' : ¬ w 14 = w 2 := by rw [h14, h2]; exact c
    have hM5 := okm_X7_becomes_6 n j ph hM hj
    have e5 : v_X7_becomes_5 n j ph = upd (upd (upd (upd n (10 + 16 * j + 2) ph) (10 + 16 * j + 3) 0) (10 + 16 * j + 5) (n (10 + 16 * j + 5) + 1)) (10 + 16 * j + 4) (n (10 + 16 * j + 4) + (if ph = 2 then 1 else 0)) := by
      unfold v_X7_becomes_5 v_X7_becomes_3 v_X7_becomes_1 f_X7_sets_a
      rw [uw (a := 5) (by decide), uw (a := 3) (by decide), uw (a := 2) (by decide), uw (a := 3) (by decide), uw (a := 2) (by decide)]
    have eN' : f_X7_becomes_a n j ph = f_X7_logs_a (v_X7_becomes_5 n j ph) 0 (10 * nI j + ph) := by unfold f_X7_becomes_a; rw [if_neg c]
    have lo : ∀ q, q < 132 → f_X7_becomes_a n j ph q = v_X7_becomes_5 n j ph q := fun q hq => by rw [eN']; exact logs_lo _ _ _ q hq
    have out : ∀ q, q < 132 → (q < 10 + 16 * j + 2 ∨ 10 + 16 * j + 6 ≤ q) → f_X7_becomes_a n j ph q = n q := by
      intro q hq h0; rw [lo q hq, e5, pk_un (by omega), pk_un (by omega), pk_un (by omega), pk_un (by omega)]
    have ek : kN j (f_X7_becomes_a n j ph) = kN j n := by unfold kN; rw [out _ (by omega) (by omega)]
    have eW : ∀ k, entW w k = (upd (upd (upd (upd w 2 ph) 3 0) 5 (w 5 + 1)) 4 (w 4 + (if ph = 2 then 1 else 0))) k := by
      intro k
      unfold entW f_X5_enter_h
      rw [if_neg c', h14]
      by_cases d : ph = 2
      · rw [if_pos d, if_pos d]
      · rw [if_neg d, if_neg d]
        by_cases b : k = 4
        · subst b; rw [pk_us, pk_un (by decide), pk_un (by decide), pk_un (by decide)]; exact (Int32.add_zero _).symm
        · rw [pk_un (k := 4) b]
    refine ⟨⟨fun k hk => ?_, fun i hi => ?_⟩, ?_, ?_, fun k hk => by rw [eW, pk_un (by omega), pk_un (by omega), pk_un (by omega), pk_un (by omega)], ?_, out⟩
    · rw [eW, lo _ (by omega), e5]
      by_cases b4 : k = 4
      · subst b4; rw [pk_us, pk_us, h.1 4 (by omega)]
      · rw [pk_un b4, uw b4]
        by_cases b5 : k = 5
        · subst b5; rw [pk_us, pk_us, h.1 5 (by omega)]
        · rw [pk_un b5, uw b5]
          by_cases b3 : k = 3
          · subst b3; rw [pk_us, pk_us]
          · rw [pk_un b3, uw b3]
            by_cases b2 : k = 2
            · subst b2; rw [pk_us, pk_us]
            · rw [pk_un b2, uw b2]; exact h.1 k hk
    · rw [ek] at hi; rw [out _ (by omega) (by omega)]; exact h.2 i hi
    · have eL : entL T j10 w L = addL L T 0 (10 * nI j + ph) := by unfold entL; rw [if_neg c', ent2, h14, h10]
      rw [eL, eN']
      refine st_log hM5 (by rw [e5, pk_un (by omega), pk_un (by omega), pk_un (by omega), pk_un (by omega)]; exact hT) (hL.ag (fun q a b => by rw [e5, pk_un (by omega), pk_un (by omega), pk_un (by omega), pk_un (by omega)]) (eN_eq hM).2)
    · refine ⟨by rw [out _ (by omega) (by omega)]; exact a1, ?_, ?_, by rw [out _ (by omega) (by omega)]; exact a4, by rw [out _ (by omega) (by omega)]; exact a5, fun i hi => ?_⟩
      · rw [lo _ (by omega), e5, uw (by decide), uw (by decide), uw (by decide), pk_us]; exact hp
      · rw [lo _ (by omega), e5, uw (by decide), uw (by decide), pk_us]; have := a3.1; have := a3.2; exact ⟨by decide, by show (0 : Int) ≤ _; omega⟩
      · rw [ek] at hi; rw [out _ (by omega) (by omega)]; exact a6 i hi
    · rw [eN']; exact logs_ok hM5
