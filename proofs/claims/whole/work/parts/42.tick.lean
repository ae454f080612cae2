/-! the tick: class against reference -/
def RW (j : Nat) (tb : Int) (w f n : F1) : Prop := Rw j w f n ∧ Iw j tb n ∧ w 11 = f_X7_acceleration n j ∧ w 12 = f_X7_estimated n j
theorem RW.ag {j : Nat} {tb : Int} {w f n m : F1} (h : RW j tb w f n) (a : Ag (10 + 16 * j) (26 + 16 * j) n m) (h4 : m 4 = n 4) (hk : kN j n ≤ 5) : RW j tb w f m :=
  ⟨h.1.ag a hk, h.2.1.ag a hk, by rw [acc_ag (a.sub (by omega) (by omega)) hk]; exact h.2.2.1, by rw [est_ag (a.sub (by omega) (by omega)) h4 hk]; exact h.2.2.2⟩
theorem RW.mono {j : Nat} {t1 t2 : Int} {w f n : F1} (h : RW j t1 w f n) (ht : t1 ≤ t2) : RW j t2 w f n := ⟨h.1, h.2.1.mono ht, h.2.2⟩
def RC (tb : Int) (u : CarS) (n : F1) : Prop := MOK n ∧ u.1 0 0 = n 0 ∧ u.1 0 1 = n 1 ∧ u.1 0 2 = n 2 ∧ u.1 0 3 = n 3 ∧ Rz (u.1 1) n ∧ RW 0 tb (u.1 2) (u.1 6) n ∧ RW 1 tb (u.1 3) (u.1 7) n ∧ RW 2 tb (u.1 4) (u.1 8) n ∧ RW 3 tb (u.1 5) (u.1 9) n ∧ Rl (u.2 0, u.2 1, u.1 10, u.1 11, u.1 12) n ∧ Rr (u.2 2) (u.1 13) (u.1 14) (u.1 15) n ∧ Rp (u.2 3) (u.1 16) (u.1 17) n ∧ I9 n ∧ bd (n 0) 0 60000 ∧ (∀ j, j < 4 → bd (n (10 + 16 * j + 0)) 0 (n 0).toInt) ∧ SR n ∧ SP n
theorem RC.M {tb : Int} {u : CarS} {n : F1} (h : RC tb u n) : MOK n := h.1
theorem RC.c0 {tb : Int} {u : CarS} {n : F1} (h : RC tb u n) : u.1 0 0 = n 0 := h.2.1
theorem RC.c1 {tb : Int} {u : CarS} {n : F1} (h : RC tb u n) : u.1 0 1 = n 1 := h.2.2.1
theorem RC.c2 {tb : Int} {u : CarS} {n : F1} (h : RC tb u n) : u.1 0 2 = n 2 := h.2.2.2.1
theorem RC.c3 {tb : Int} {u : CarS} {n : F1} (h : RC tb u n) : u.1 0 3 = n 3 := h.2.2.2.2.1
theorem RC.z {tb : Int} {u : CarS} {n : F1} (h : RC tb u n) : Rz (u.1 1) n := h.2.2.2.2.2.1
theorem RC.w0 {tb : Int} {u : CarS} {n : F1} (h : RC tb u n) : RW 0 tb (u.1 2) (u.1 6) n := h.2.2.2.2.2.2.1
theorem RC.w1 {tb : Int} {u : CarS} {n : F1} (h : RC tb u n) : RW 1 tb (u.1 3) (u.1 7) n := h.2.2.2.2.2.2.2.1
theorem RC.w2 {tb : Int} {u : CarS} {n : F1} (h : RC tb u n) : RW 2 tb (u.1 4) (u.1 8) n := h.2.2.2.2.2.2.2.2.1
theorem RC.w3 {tb : Int} {u : CarS} {n : F1} (h : RC tb u n) : RW 3 tb (u.1 5) (u.1 9) n := h.2.2.2.2.2.2.2.2.2.1
theorem RC.L {tb : Int} {u : CarS} {n : F1} (h : RC tb u n) : Rl (u.2 0, u.2 1, u.1 10, u.1 11, u.1 12) n := h.2.2.2.2.2.2.2.2.2.2.1
theorem RC.r {tb : Int} {u : CarS} {n : F1} (h : RC tb u n) : Rr (u.2 2) (u.1 13) (u.1 14) (u.1 15) n := h.2.2.2.2.2.2.2.2.2.2.2.1
theorem RC.p {tb : Int} {u : CarS} {n : F1} (h : RC tb u n) : Rp (u.2 3) (u.1 16) (u.1 17) n := h.2.2.2.2.2.2.2.2.2.2.2.2.1
theorem RC.i9 {tb : Int} {u : CarS} {n : F1} (h : RC tb u n) : I9 n := h.2.2.2.2.2.2.2.2.2.2.2.2.2.1
theorem RC.bV {tb : Int} {u : CarS} {n : F1} (h : RC tb u n) : bd (n 0) 0 60000 := h.2.2.2.2.2.2.2.2.2.2.2.2.2.2.1
theorem RC.bW {tb : Int} {u : CarS} {n : F1} (h : RC tb u n) : ∀ j, j < 4 → bd (n (10 + 16 * j + 0)) 0 (n 0).toInt := h.2.2.2.2.2.2.2.2.2.2.2.2.2.2.2.1
theorem RC.sr {tb : Int} {u : CarS} {n : F1} (h : RC tb u n) : SR n := h.2.2.2.2.2.2.2.2.2.2.2.2.2.2.2.2.1
theorem RC.sp {tb : Int} {u : CarS} {n : F1} (h : RC tb u n) : SP n := h.2.2.2.2.2.2.2.2.2.2.2.2.2.2.2.2.2
theorem RC.mono {t1 t2 : Int} {u : CarS} {n : F1} (h : RC t1 u n) (ht : t1 ≤ t2) : RC t2 u n :=
  ⟨h.M, h.c0, h.c1, h.c2, h.c3, h.z, h.w0.mono ht, h.w1.mono ht, h.w2.mono ht, h.w3.mono ht, h.L, h.r, h.p, h.i9, h.bV, h.bW, h.sr, h.sp⟩
/-- the speed of a wheel after the turn -/
def tnW (V a : Int32) : Int32 := if 0 ≤ a then f_X7_lesser a V else 0
theorem tn_eq {V a : Int32} (hV : 0 ≤ V.toInt) : mn (mx a 0) V = tnW V a := by
  rw [mnl, mxg]
  apply tEq
  rw [leT, grT]
  unfold tnW
  by_cases c : 0 ≤ a
  · have c' := le_iff.mp c
    rw [if_pos c, leT]
    rw [show (0 : Int32).toInt = 0 from rfl] at *
    (repeat' split) <;> omega
  · have c' : a.toInt < 0 := by
      rcases Int.lt_or_le a.toInt 0 with q | q
      · exact q
      · exact absurd (show (0 : Int32) ≤ a from le_iff.mpr q) c
    rw [if_neg c]
    rw [show (0 : Int32).toInt = 0 from rfl] at *
    split <;> split <;> omega
theorem tn_bd {V a : Int32} (hV : 0 ≤ V.toInt) : bd (tnW V a) 0 V.toInt := by
  unfold tnW
  split
  · rename_i c
    have c' := le_iff.mp c
    rw [show (0 : Int32).toInt = 0 from rfl] at *
    unfold bd
    rw [leT]; split <;> omega
  · exact ⟨by decide, hV⟩
/-- the row after the turn of all wheels -/
def tnA (n : F1) (a0 a1 a2 a3 : Int32) : F1 := upd (upd (upd (upd n 10 a0) 26 a1) 42 a2) 58 a3
theorem tnA_o {n : F1} {a0 a1 a2 a3 : Int32} {q : Nat} (h : q ≠ 10 ∧ q ≠ 26 ∧ q ≠ 42 ∧ q ≠ 58) : tnA n a0 a1 a2 a3 q = n q := by
  unfold tnA; rw [pk_un (by omega), pk_un (by omega), pk_un (by omega), pk_un (by omega)]
theorem tnA_0 (n : F1) (a0 a1 a2 a3 : Int32) : tnA n a0 a1 a2 a3 10 = a0 := by
  unfold tnA; rw [pk_un (by decide), pk_un (by decide), pk_un (by decide), pk_us]
theorem tnA_1 (n : F1) (a0 a1 a2 a3 : Int32) : tnA n a0 a1 a2 a3 26 = a1 := by
  unfold tnA; rw [pk_un (by decide), pk_un (by decide), pk_us]
theorem tnA_2 (n : F1) (a0 a1 a2 a3 : Int32) : tnA n a0 a1 a2 a3 42 = a2 := by
  unfold tnA; rw [pk_un (by decide), pk_us]
theorem tnA_3 (n : F1) (a0 a1 a2 a3 : Int32) : tnA n a0 a1 a2 a3 58 = a3 := by
  unfold tnA; rw [pk_us]
theorem Rw_turn {j : Nat} {w f n m : F1} {G x : Int32} (hj : j < 4) (h : Rw j w f n) (hk : kN j n ≤ 5) (a : Ag (10 + 16 * j + 1) (26 + 16 * j) n m) (e : m (10 + 16 * j + 0) = x) : Rw j (upd (upd w 13 G) 0 x) f m := by
  have ek : kN j m = kN j n := by unfold kN; rw [a _ (by omega) (by omega)]
  refine ⟨fun k hk' => ?_, fun i hi => ?_⟩
  · by_cases c : k = 0
    · subst c; rw [pk_us, e]
    · rw [pk_un c, pk_un (by omega), a _ (by omega) (by omega)]; exact h.1 k hk'
  · rw [ek] at hi; rw [a _ (by omega) (by omega)]; exact h.2 i hi
theorem Iw_turn {j : Nat} {tb : Int} {n m : F1} (hj : j < 4) (h : Iw j tb n) (hk : kN j n ≤ 5) (a : Ag (10 + 16 * j + 1) (26 + 16 * j) n m) : Iw j tb m := by
  have ek : kN j m = kN j n := by unfold kN; rw [a _ (by omega) (by omega)]
  obtain ⟨x1, x2, x3, x4, x5, x6⟩ := h
  refine ⟨by rw [a _ (by omega) (by omega)]; exact x1, by rw [a _ (by omega) (by omega)]; exact x2, by rw [a _ (by omega) (by omega)]; exact x3, by rw [a _ (by omega) (by omega)]; exact x4, by rw [a _ (by omega) (by omega)]; exact x5, fun i hi => ?_⟩
  rw [ek] at hi; rw [a _ (by omega) (by omega)]; exact x6 i hi
/-- the count of the locked ticks -/
def lkW (V W c : Int32) : Int32 := c + (if W = 0 then (if V ≤ 1400 then 0 else 1) else 0)
def lkA (n : F1) : F1 := upd (upd (upd (upd n 16 (lkW (n 0) (n 10) (n 16))) 32 (lkW (n 0) (n 26) (n 32))) 48 (lkW (n 0) (n 42) (n 48))) 64 (lkW (n 0) (n 58) (n 64))
theorem lkA_o {n : F1} {q : Nat} (h : q ≠ 16 ∧ q ≠ 32 ∧ q ≠ 48 ∧ q ≠ 64) : lkA n q = n q := by
  unfold lkA; rw [pk_un (by omega), pk_un (by omega), pk_un (by omega), pk_un (by omega)]
theorem lkA_j {n : F1} {j : Nat} (hj : j < 4) : lkA n (10 + 16 * j + 6) = lkW (n 0) (n (10 + 16 * j + 0)) (n (10 + 16 * j + 6)) := by
  unfold lkA
  rcases (show j = 0 ∨ j = 1 ∨ j = 2 ∨ j = 3 by omega) with e | e | e | e <;> subst e
  · rw [pk_un (by decide), pk_un (by decide), pk_un (by decide), pk_us]
  · rw [pk_un (by decide), pk_un (by decide), pk_us]
  · rw [pk_un (by decide), pk_us]
  · rw [pk_us]
theorem RW_lock {j : Nat} {tb : Int} {w f n : F1} {V : Int32} (hM : MOK n) (hj : j < 4) (h : WS j tb w f n) (hV : V = n 0) : RW j tb (f_X5_countLocked_h w V) f (lkA n) := by
  obtain ⟨⟨⟨a, b⟩, hI, h11, hk1⟩, h12⟩ := h
  have hk := (kN_eq hM hj).2
  have agr : Ag (10 + 16 * j + 10) (26 + 16 * j) n (lkA n) := fun q x y => lkA_o (by omega)
  have ek : kN j (lkA n) = kN j n := by unfold kN; rw [agr _ (by omega) (by omega)]
  have hw0 := a 0 (by decide)
  have hw6 := a 6 (by decide)
  have e : f_X5_countLocked_h w V = upd w 6 (lkW (n 0) (n (10 + 16 * j + 0)) (n (10 + 16 * j + 6))) := by
    unfold f_X5_countLocked_h lkW
    rw [hw0, hV]
    by_cases c : n (10 + 16 * j + 0) = 0
    · rw [if_pos c, if_pos c]
      by_cases d : n 0 ≤ 1400
      · rw [if_pos d, if_pos d, Int32.add_zero, ← hw6]
        funext q
        by_cases e : q = 6
        · subst e; rw [pk_us]
        · rw [pk_un e]
      · rw [if_neg d, if_neg d, hw6]
    · rw [if_neg c, if_neg c, Int32.add_zero, ← hw6]
      funext q
      by_cases e : q = 6
      · subst e; rw [pk_us]
      · rw [pk_un e]
  rw [e]
  have o : ∀ k, k ≠ 6 → k < 16 → lkA n (10 + 16 * j + k) = n (10 + 16 * j + k) := fun k h1 h2 => lkA_o (by omega)
  refine ⟨⟨fun k hk' => ?_, fun i hi => ?_⟩, ?_, ?_, ?_⟩
  · by_cases c : k = 6
    · subst c; rw [pk_us, lkA_j hj]
    · rw [pk_un c, o k c (by omega)]; exact a k hk'
  · rw [ek] at hi; rw [agr _ (by omega) (by omega)]; exact b i hi
  · obtain ⟨x1, x2, x3, x4, x5, x6⟩ := hI
    refine ⟨by rw [o 1 (by decide) (by decide)]; exact x1, by rw [o 2 (by decide) (by decide)]; exact x2, by rw [o 3 (by decide) (by decide)]; exact x3, by rw [o 7 (by decide) (by decide)]; exact x4, by rw [o 9 (by decide) (by decide)]; exact x5, fun i hi => ?_⟩
    rw [ek] at hi; rw [agr _ (by omega) (by omega)]; exact x6 i hi
  · rw [pk_un (by decide), acc_ag agr hk]; exact h11
  · rw [pk_un (by decide), est_ag agr (lkA_o (by decide)) hk]; exact h12
/-- the reference's tick in a few names -/
def tiP (n : F1) : F1 := f_X7_followsPlan_a (upd n 2 (n 2 + 1))
def tiF (n : F1) (j : Nat) : Int32 := f_X7_frictionAt (tiP n) j
def tiV (n : F1) : Int32 := f_X7_greater 0 (tiP n 0 - (tiF n 0 + tiF n 1 + tiF n 2 + tiF n 3) / 40)
def tiM (n : F1) : F1 := upd (upd (tiP n) 1 (tiP n 1 + tiP n 0 / 100)) 0 (tiV n)
def tiW (n : F1) (j : Nat) : Int32 := tnW (tiV n) (tiP n (10 + 16 * j + 0) + 2 * (tiF n j - tiP n (10 + 16 * j + 1)))
def tiT (n : F1) : F1 := tnA (tiM n) (tiW n 0) (tiW n 1) (tiW n 2) (tiW n 3)
theorem tiM_o (n : F1) {q : Nat} (h : q ≠ 0 ∧ q ≠ 1) : tiM n q = tiP n q := by unfold tiM; rw [pk_un h.1, pk_un h.2]
theorem tiM_0 (n : F1) : tiM n 0 = tiV n := pk_us
theorem tick3 (n : F1) : v_X7_tickOn_3 n = tiM n := by
  unfold v_X7_tickOn_3 v_X7_tickOn_1 tiM tiV tiF tiP
  rw [pk_un (show (0 : Nat) ≠ 1 by decide)]
theorem tick6 (n : F1) : v_X7_tickOn_6 n = tiW n 0 := by
  unfold v_X7_tickOn_6 v_X7_tickOn_5 tiW tnW
  rw [tick3, tiM_0, tiM_o n (q := 10) (by decide), tiM_o n (q := 11) (by decide)]; rfl
theorem tick9 (n : F1) : v_X7_tickOn_9 n = tiW n 1 := by
  unfold v_X7_tickOn_9 v_X7_tickOn_8 tiW tnW f_X7_sets_a
  rw [pk_un (show (26 : Nat) ≠ 10 by decide), pk_un (show (27 : Nat) ≠ 10 by decide), pk_un (show (0 : Nat) ≠ 10 by decide), tick3, tiM_0, tiM_o n (q := 26) (by decide), tiM_o n (q := 27) (by decide)]; rfl
theorem tick12 (n : F1) : v_X7_tickOn_12 n = tiW n 2 := by
  unfold v_X7_tickOn_12 v_X7_tickOn_11 tiW tnW f_X7_sets_a
  rw [pk_un (show (42 : Nat) ≠ 26 by decide), pk_un (show (43 : Nat) ≠ 26 by decide), pk_un (show (0 : Nat) ≠ 26 by decide), pk_un (show (42 : Nat) ≠ 10 by decide), pk_un (show (43 : Nat) ≠ 10 by decide), pk_un (show (0 : Nat) ≠ 10 by decide), tick3, tiM_0, tiM_o n (q := 42) (by decide), tiM_o n (q := 43) (by decide)]; rfl
theorem tick14 (n : F1) : v_X7_tickOn_14 n = upd (upd (upd (tiM n) 10 (tiW n 0)) 26 (tiW n 1)) 42 (tiW n 2) := by
  unfold v_X7_tickOn_14 f_X7_sets_a
  rw [tick3, tick6, tick9, tick12]
theorem tick17 (n : F1) : v_X7_tickOn_17 n = tiW n 3 := by
  unfold v_X7_tickOn_17 v_X7_tickOn_16 tiW tnW
  rw [tick14]
  rw [pk_un (show (58 : Nat) ≠ 42 by decide), pk_un (show (59 : Nat) ≠ 42 by decide), pk_un (show (0 : Nat) ≠ 42 by decide), pk_un (show (58 : Nat) ≠ 26 by decide), pk_un (show (59 : Nat) ≠ 26 by decide), pk_un (show (0 : Nat) ≠ 26 by decide), pk_un (show (58 : Nat) ≠ 10 by decide), pk_un (show (59 : Nat) ≠ 10 by decide), pk_un (show (0 : Nat) ≠ 10 by decide), tiM_0, tiM_o n (q := 58) (by decide), tiM_o n (q := 59) (by decide)]; rfl
theorem tick19 (n : F1) : v_X7_tickOn_19 n = f_X7_controls_a (f_X7_dropsSegments_a (tiT n)) := by
  unfold v_X7_tickOn_19 tiT tnA f_X7_sets_a
  rw [tick14, tick17]
theorem tick31 (n : F1) : v_X7_tickOn_31 n = lkA (v_X7_tickOn_19 n) := by
  unfold v_X7_tickOn_31 v_X7_tickOn_29 v_X7_tickOn_27 v_X7_tickOn_25 v_X7_tickOn_23 v_X7_tickOn_21 f_X7_sets_a lkA lkW
  generalize v_X7_tickOn_19 n = m
  simp only [pk_un (show (0 : Nat) ≠ 16 by decide), pk_un (show (26 : Nat) ≠ 16 by decide), pk_un (show (32 : Nat) ≠ 16 by decide), pk_un (show (42 : Nat) ≠ 16 by decide), pk_un (show (48 : Nat) ≠ 16 by decide), pk_un (show (58 : Nat) ≠ 16 by decide), pk_un (show (64 : Nat) ≠ 16 by decide), pk_un (show (0 : Nat) ≠ 32 by decide), pk_un (show (42 : Nat) ≠ 32 by decide), pk_un (show (48 : Nat) ≠ 32 by decide), pk_un (show (58 : Nat) ≠ 32 by decide), pk_un (show (64 : Nat) ≠ 32 by decide), pk_un (show (0 : Nat) ≠ 48 by decide), pk_un (show (58 : Nat) ≠ 48 by decide), pk_un (show (64 : Nat) ≠ 48 by decide)]
