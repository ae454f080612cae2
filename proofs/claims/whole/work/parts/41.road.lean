/-! the road -/
def Rr (cn : Nat) (rs rl rr n : F1) : Prop := cn = sN n ∧ ∀ i, i < cn → rs i = n (75 + 3 * i) ∧ rl i = n (76 + 3 * i) ∧ rr i = n (77 + 3 * i)
def SR (n : F1) : Prop := ∀ i j, i < j → j < sN n → (n (75 + 3 * i)).toInt < (n (75 + 3 * j)).toInt
theorem sN_ag {n m : F1} (a : Ag 74 111 n m) : sN m = sN n := by unfold sN; rw [a 74 (by omega) (by omega)]
theorem Rr.ag {cn : Nat} {rs rl rr n m : F1} (h : Rr cn rs rl rr n) (a : Ag 74 111 n m) (hs : sN n ≤ 12) : Rr cn rs rl rr m := by
  refine ⟨by rw [sN_ag a]; exact h.1, fun i hi => ?_⟩
  have : i < 12 := by have := h.1; omega
  rw [a _ (by omega) (by omega), a _ (by omega) (by omega), a _ (by omega) (by omega)]; exact h.2 i hi
theorem SR.ag {n m : F1} (h : SR n) (a : Ag 74 111 n m) (hs : sN n ≤ 12) : SR m := by
  intro i j hij hj
  rw [sN_ag a] at hj
  rw [a _ (by omega) (by omega), a _ (by omega) (by omega)]; exact h i j hij hj
theorem prI_is {n : F1} {p : Nat} (h0 : p = 0 ∨ (n (75 + 3 * p)).toInt ≤ (n 1).toInt) : ∀ k, p < k → (∀ i, p < i → i < k → (n 1).toInt < (n (75 + 3 * i)).toInt) → prI n k = p
  | 0, h, _ => by omega
  | k + 1, h, hi => by
    show (if n 1 < n (75 + 3 * k) then prI n k else k) = p
    by_cases e : k = p
    · subst e
      rcases h0 with z | z
      · subst z; split <;> rfl
      · rw [if_neg (fun c => by have := lt_iff.mp c; omega)]
    · rw [if_pos (lt_iff.mpr (hi k (by omega) (by omega)))]
      exact prI_is h0 k (by omega) (fun i a b => hi i a (by omega))
theorem prs_eq {cn : Nat} {rs rl rr n : F1} {X : Int32} (hM : MOK n) (h : Rr cn rs rl rr n) (hS : SR n) (hX : X = n 1) : prs cn rs X = prI n (sN n) := by
  obtain ⟨hn, h1, h12⟩ := sN_eq hM
  have hc := h.1
  have hall := scan_all (P := prsP cn rs X) 12 0
  have hle := scan_le (P := prsP cn rs X) 12 0
  have hlt : prs cn rs X < cn := by
    rcases Nat.eq_zero_or_pos (prs cn rs X) with z | z
    · omega
    · have := hall (prs cn rs X - 1) (Nat.zero_le _) (by unfold prs at z ⊢; omega)
      simp only [prsP, Bool.and_eq_true, decide_eq_true_eq] at this
      omega
  have hend : prs cn rs X + 1 < cn → ¬ rs (prs cn rs X + 1) ≤ X := by
    intro hp hc'
    have := scan_end (P := prsP cn rs X) 12 0 (by show prs cn rs X < 0 + 12; omega)
    have e : prsP cn rs X (prs cn rs X) = true := by
      simp only [prsP, Bool.and_eq_true, decide_eq_true_eq]; exact ⟨hp, hc'⟩
    rw [show scanB (prsP cn rs X) 12 0 = prs cn rs X from rfl, e] at this
    cases this
  have key := prI_is (n := n) (p := prs cn rs X) ?_ (sN n) (by omega) ?_
  · exact key.symm
  · rcases Nat.eq_zero_or_pos (prs cn rs X) with z | z
    · exact Or.inl z
    · have := hall (prs cn rs X - 1) (Nat.zero_le _) (by unfold prs at z ⊢; omega)
      simp only [prsP, Bool.and_eq_true, decide_eq_true_eq] at this
      rw [show prs cn rs X - 1 + 1 = prs cn rs X by omega, (h.2 _ hlt).1] at this
      exact Or.inr (by rw [← hX]; exact le_iff.mp this.2)
  · intro i a b
    rw [← hX]
    have e1 := hend (by omega)
    rw [(h.2 _ (by omega)).1] at e1
    have e2 : X.toInt < (n (75 + 3 * (prs cn rs X + 1))).toInt := by
      rcases Int.lt_or_le X.toInt (n (75 + 3 * (prs cn rs X + 1))).toInt with q | q
      · exact q
      · exact absurd (le_iff.mpr q) e1
    by_cases e : i = prs cn rs X + 1
    · subst e; exact e2
    · have := hS (prs cn rs X + 1) i (by omega) b; omega
theorem grip_eq {cn j : Nat} {g w rs rl rr n : F1} {lf : Int32} (hM : MOK n) (hj : j < 4) (h : Rr cn rs rl rr n) (hS : SR n) (hg0 : g 0 = n 0) (hg1 : g 1 = n 1) (hw : w 0 = n (10 + 16 * j + 0)) (bV : bd (n 0) 0 60000) (bW : bd (n (10 + 16 * j + 0)) 0 (n 0).toInt) (hl : lf = if j % 2 = 0 then 1 else 0) :
    f_X6_gripFor (f_X3_surfaceAt cn rs rl rr (g 1) lf) (f_X5_slip w (g 0)) = f_X7_frictionAt n j ∧ bd (f_X7_frictionAt n j) 0 7000 := by
  obtain ⟨hn, h1, h12⟩ := sN_eq hM
  obtain ⟨es, bs⟩ := slipEq hw hg0 bV bW
  have ep := prs_eq hM h hS hg1
  have hp := prI_lt n (sN n) h1
  have hc := h.1
  have esf : f_X3_surfaceAt cn rs rl rr (g 1) lf = n (75 + 3 * prI n (sN n) + 1 + j % 2) := by
    unfold f_X3_surfaceAt
    rw [ep, hl]
    obtain ⟨_, x2, x3⟩ := h.2 (prI n (sN n)) (by omega)
    rcases (show j % 2 = 0 ∨ j % 2 = 1 by omega) with e | e
    · rw [if_pos e, if_neg (by decide), x2, e]; exact congrArg n (by omega)
    · rw [if_neg (show ¬ j % 2 = 0 by omega), if_pos (show (0 : Int32) = 0 from rfl), x3, e]; exact congrArg n (by omega)
  rw [esf, es]
  exact fricEq _ bs
/-- the rows of the road behind the shift -/
theorem dz_74 (n : F1) : f_X7_dropsSegments_a n 74 = nI (sN n - prI n (sN n)) := by unfold f_X7_dropsSegments_a; rw [cpy_lo (by omega)]; exact pk_us
theorem dz_out {n : F1} (hM : MOK n) {q : Nat} (hq : q < 74 ∨ 111 ≤ q) : f_X7_dropsSegments_a n q = n q := by
  obtain ⟨hn, h1, h12⟩ := sN_eq hM
  unfold f_X7_dropsSegments_a
  rcases hq with hq | hq
  · rw [cpy_lo (by omega)]; exact pk_un (by omega)
  · rw [cpy_hi (by omega)]; exact pk_un (by omega)
theorem dz_in {n : F1} {q : Nat} (hq : q < 3 * (sN n - prI n (sN n))) : f_X7_dropsSegments_a n (75 + q) = n (75 + q + 3 * prI n (sN n)) := by
  unfold f_X7_dropsSegments_a va_cpy
  rw [if_pos (by omega), pk_un (by omega)]; exact congrArg n (by omega)
theorem st_drop {cn : Nat} {rs rl rr n : F1} {X : Int32} (hM : MOK n) (h : Rr cn rs rl rr n) (hS : SR n) (hX : X = n 1) : Rr (f_X3_dropPassed_h_cn cn rs X) (f_X3_dropPassed_s0 cn rs X) (f_X3_dropPassed_l0 cn rs rl X) (f_X3_dropPassed_r0 cn rs rr X) (f_X7_dropsSegments_a n) ∧ SR (f_X7_dropsSegments_a n) := by
  obtain ⟨hn, h1, h12⟩ := sN_eq hM
  have ep := prs_eq hM h hS hX
  have hp := prI_lt n (sN n) h1
  have hc := h.1
  have es : sN (f_X7_dropsSegments_a n) = sN n - prI n (sN n) := by unfold sN; rw [dz_74, nI_clamp (by unfold sN at *; omega)]; rfl
  have key : ∀ i, i < sN n - prI n (sN n) → f_X7_dropsSegments_a n (75 + 3 * i) = n (75 + 3 * (i + prI n (sN n))) ∧ f_X7_dropsSegments_a n (76 + 3 * i) = n (76 + 3 * (i + prI n (sN n))) ∧ f_X7_dropsSegments_a n (77 + 3 * i) = n (77 + 3 * (i + prI n (sN n))) := by
    intro i hi
    refine ⟨?_, ?_, ?_⟩
    · rw [dz_in (q := 3 * i) (by omega)]; exact congrArg n (by omega)
    · rw [show 76 + 3 * i = 75 + (3 * i + 1) by omega, dz_in (q := 3 * i + 1) (by omega)]; exact congrArg n (by omega)
    · rw [show 77 + 3 * i = 75 + (3 * i + 2) by omega, dz_in (q := 3 * i + 2) (by omega)]; exact congrArg n (by omega)
  refine ⟨?_, fun i j hij hj => ?_⟩
  · unfold f_X3_dropPassed_h_cn f_X3_dropPassed_s0 f_X3_dropPassed_l0 f_X3_dropPassed_r0
    rw [ep]
    by_cases c : nI (prI n (sN n)) ≤ 0
    · have z : prI n (sN n) = 0 := by
        rcases Nat.eq_zero_or_pos (prI n (sN n)) with q | q
        · exact q
        · exact absurd c (nI_nle q (by omega))
      rw [if_pos c, if_pos c, if_pos c, if_pos c]
      refine ⟨by rw [es, z]; omega, fun i hi => ?_⟩
      obtain ⟨k1, k2, k3⟩ := key i (by omega)
      rw [k1, k2, k3, z, Nat.add_zero]
      exact h.2 i hi
    · rw [if_neg c, if_neg c, if_neg c, if_neg c]
      refine ⟨by rw [es]; omega, fun i hi => ?_⟩
      obtain ⟨k1, k2, k3⟩ := key i (by omega)
      obtain ⟨x1, x2, x3⟩ := h.2 (i + prI n (sN n)) (by omega)
      rw [k1, k2, k3, ← x1, ← x2, ← x3]
      unfold f_X3_shift_s0 f_X3_shift_l0 f_X3_shift_r0 va_cpy
      rw [if_pos (by omega), if_pos (by omega), if_pos (by omega)]
      exact ⟨congrArg rs (by omega), congrArg rl (by omega), congrArg rr (by omega)⟩
  · rw [es] at hj
    rw [(key i (by omega)).1, (key j (by omega)).1]
    exact hS _ _ (by omega) (by omega)
/-! the plan -/
def Rp (pn : Nat) (pt pd n : F1) : Prop := pn = pN n ∧ ∀ i, i < pn → pt i = n (112 + 2 * i) ∧ pd i = n (113 + 2 * i)
/-- the plan is ordered by time; its demands are demands -/
def SP (n : F1) : Prop := (∀ i j, i < j → j < pN n → (n (112 + 2 * i)).toInt ≤ (n (112 + 2 * j)).toInt) ∧ ∀ i, i < pN n → bd (n (113 + 2 * i)) 0 2000
theorem pN_ag {n m : F1} (a : Ag 111 132 n m) : pN m = pN n := by unfold pN; rw [a 111 (by omega) (by omega)]
theorem Rp.ag {pn : Nat} {pt pd n m : F1} (h : Rp pn pt pd n) (a : Ag 111 132 n m) (hs : pN n ≤ 10) : Rp pn pt pd m := by
  refine ⟨by rw [pN_ag a]; exact h.1, fun i hi => ?_⟩
  have : i < 10 := by have := h.1; omega
  rw [a _ (by omega) (by omega), a _ (by omega) (by omega)]; exact h.2 i hi
theorem SP.ag {n m : F1} (h : SP n) (a : Ag 111 132 n m) (hs : pN n ≤ 10) : SP m := by
  refine ⟨fun i j hij hj => ?_, fun i hi => ?_⟩
  · rw [pN_ag a] at hj
    rw [a _ (by omega) (by omega), a _ (by omega) (by omega)]; exact h.1 i j hij hj
  · rw [pN_ag a] at hi
    rw [a _ (by omega) (by omega)]; exact h.2 i hi
theorem pop_at {n : F1} (hM : MOK n) : ∀ i, i ≤ pN n → (∀ q, q < 2 * (pN n - i) → popN n i (112 + q) = n (112 + q + 2 * i)) ∧ (∀ q, q < 111 ∧ q ≠ 3 ∨ 132 ≤ q → popN n i q = n q) ∧ (popN n i 3 = if i = 0 then n 3 else n (113 + 2 * (i - 1)))
  | 0, _ => ⟨fun q _ => rfl, fun q _ => rfl, rfl⟩
  | i + 1, h => by
    obtain ⟨a, b, c⟩ := pop_at hM i (by omega)
    obtain ⟨o1, o2⟩ := popN_ok hM i (by omega)
    have h10 := (pN_eq hM).2
    refine ⟨fun q hq => ?_, fun q hq => ?_, ?_⟩
    · show pop1 (popN n i) (112 + q) = _
      unfold pop1 va_cpy
      rw [o2, if_pos (by omega), pk_un (by omega), pk_un (by omega), show 114 + (112 + q - 112) = 112 + (q + 2) by omega, a (q + 2) (by omega)]
      exact congrArg n (by omega)
    · show pop1 (popN n i) q = _
      rw [pop1_out o1 q hq, b q hq]
    · show pop1 (popN n i) 3 = _
      unfold pop1
      rw [cpy_lo (by omega), pk_un (by decide), pk_us, if_neg (by omega), show 113 = 112 + 1 from rfl, a 1 (by omega)]
      exact congrArg n (by omega)
theorem scan_eq {P Q : Nat → Bool} {N : Nat} (h : ∀ i, i ≤ N → P i = Q i) (hN : P N = false) : ∀ k i, i ≤ N → scanB P k i = scanB Q k i
  | 0, i, _ => rfl
  | k + 1, i, hi => by
    show (if P i = true then scanB P k (i + 1) else i) = (if Q i = true then scanB Q k (i + 1) else i)
    rw [← h i hi]
    by_cases c : P i = true
    · rw [if_pos c, if_pos c]
      have : i ≠ N := fun z => by rw [z, hN] at c; cases c
      exact scan_eq h hN k (i + 1) (by omega)
    · rw [if_neg c, if_neg c]
theorem unt_eq {pn : Nat} {pt pd n : F1} {T : Int32} (hM : MOK n) (h : Rp pn pt pd n) (hT : T = n 2) : unt pn pt T = popK n := by
  have h10 := (pN_eq hM).2
  have hc := h.1
  refine (scan_eq (P := popP n) (Q := untP pn pt T) (N := pN n) ?_ ?_ 10 0 (Nat.zero_le _)).symm
  · intro i hi
    obtain ⟨a, b, c⟩ := pop_at hM i hi
    obtain ⟨o1, o2⟩ := popN_ok hM i hi
    obtain ⟨o3, o4⟩ := pN_eq o1
    unfold popP untP
    by_cases e : i < pn
    · rw [show (112 : Nat) = 112 + 0 from rfl, a 0 (by omega), b 2 (by omega), o3, (h.2 i e).1, hT]
      have z : ¬ nI (pN (popN n i)) ≤ 0 := nI_nle (by omega) (by omega)
      have w : n (112 + 0 + 2 * i) = n (112 + 2 * i) := congrArg n (by omega)
      rw [w]
      by_cases d : n (112 + 2 * i) ≤ n 2
      · have d' : ¬ n 2 < n (112 + 2 * i) := fun q => by have := lt_iff.mp q; have := le_iff.mp d; omega
        simp [z, e, d, d']
      · have d' : n 2 < n (112 + 2 * i) := lt_iff.mpr (by
          rcases Int.lt_or_le (n 2).toInt (n (112 + 2 * i)).toInt with q | q
          · exact q
          · exact absurd (le_iff.mpr q) d)
        simp [d, d']
    · have z : pN (popN n i) = 0 := by omega
      rw [o3, z]
      simp [e, show nI 0 ≤ 0 by decide]
  · obtain ⟨o1, o2⟩ := popN_ok hM (pN n) (Nat.le_refl _)
    unfold popP
    rw [(pN_eq o1).1, o2, Nat.sub_self]
    simp [show nI 0 ≤ 0 by decide]
theorem st_plan {pn : Nat} {pt pd n : F1} {T dm : Int32} (hM : MOK n) (h : Rp pn pt pd n) (hS : SP n) (hT : T = n 2) (hd : dm = n 3) (b3 : bd (n 3) 0 2000) :
    f_X4_takeDemand pn pt pd T dm = f_X7_followsPlan_a n 3 ∧ Rp (f_X4_takeDemand_h_pn pn pt T) (f_X4_takeDemand_t pn pt T) (f_X4_takeDemand_d pn pt pd T) (f_X7_followsPlan_a n) ∧ SP (f_X7_followsPlan_a n) ∧ bd (f_X7_followsPlan_a n 3) 0 2000 ∧ MOK (f_X7_followsPlan_a n) ∧ (∀ q, q < 111 ∧ q ≠ 3 ∨ 132 ≤ q → f_X7_followsPlan_a n q = n q) := by
  have eu := unt_eq hM h hT
  have hk := popK_le hM
  have h10 := (pN_eq hM).2
  have hc := h.1
  obtain ⟨a, b, c⟩ := pop_at hM (popK n) hk
  obtain ⟨o1, o2⟩ := popN_ok hM (popK n) hk
  have e3 : f_X7_followsPlan_a n 3 = if popK n = 0 then n 3 else n (113 + 2 * (popK n - 1)) := c
  have key : ∀ i, i < pN n - popK n → f_X7_followsPlan_a n (112 + 2 * i) = n (112 + 2 * (i + popK n)) ∧ f_X7_followsPlan_a n (113 + 2 * i) = n (113 + 2 * (i + popK n)) := by
    intro i hi
    refine ⟨(a (2 * i) (by omega)).trans (congrArg n (by omega)), ?_⟩
    rw [show 113 + 2 * i = 112 + (2 * i + 1) by omega]
    exact (a (2 * i + 1) (by omega)).trans (congrArg n (by omega))
  refine ⟨?_, ?_, ⟨fun i j hij hj => ?_, fun i hi => ?_⟩, ?_, follows_ok hM, b⟩
  · unfold f_X4_takeDemand
    rw [eu, e3]
    rcases Nat.eq_zero_or_pos (popK n) with z | z
    · rw [z, if_neg (by decide), if_pos rfl]; exact hd
    · rw [if_pos (show (0 : Int32) < nI (popK n) from nI_lt (a := 0) z (by omega)), if_neg (by omega), (h.2 _ (by omega)).2]
  · unfold f_X4_takeDemand_h_pn f_X4_takeDemand_t f_X4_takeDemand_d
    rw [eu]
    have eN' : pN (f_X7_followsPlan_a n) = pN n - popK n := o2
    rcases Nat.eq_zero_or_pos (popK n) with z | z
    · rw [if_neg (by rw [z]; decide), if_neg (by rw [z]; decide), if_neg (by rw [z]; decide)]
      refine ⟨by rw [eN', z]; omega, fun i hi => ?_⟩
      obtain ⟨k1, k2⟩ := key i (by omega)
      rw [k1, k2, z, Nat.add_zero]; exact h.2 i hi
    · have zz : 0 < nI (popK n) := nI_lt (a := 0) z (by omega)
      rw [if_pos zz, if_pos zz, if_pos zz]
      refine ⟨by rw [eN']; omega, fun i hi => ?_⟩
      obtain ⟨k1, k2⟩ := key i (by omega)
      obtain ⟨x1, x2⟩ := h.2 (i + popK n) (by omega)
      rw [k1, k2, ← x1, ← x2]
      unfold f_X4_shift_t f_X4_shift_d va_cpy
      rw [if_pos (by omega), if_pos (by omega)]
      exact ⟨congrArg pt (by omega), congrArg pd (by omega)⟩
  · have eN' : pN (f_X7_followsPlan_a n) = pN n - popK n := o2
    rw [eN'] at hj
    rw [(key i (by omega)).1, (key j (by omega)).1]; exact hS.1 _ _ (by omega) (by omega)
  · have eN' : pN (f_X7_followsPlan_a n) = pN n - popK n := o2
    rw [eN'] at hi
    rw [(key i (by omega)).2]; exact hS.2 _ (by omega)
  · rw [e3]
    split
    · exact b3
    · exact hS.2 _ (by omega)
