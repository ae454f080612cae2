/-! the controller's steps: reference speed, estimated slip, suspicion -/
theorem le_iff {a b : Int32} : a ≤ b ↔ a.toInt ≤ b.toInt := Int32.le_iff_toInt_le
theorem lt_iff {a b : Int32} : a < b ↔ a.toInt < b.toInt := Int32.lt_iff_toInt_lt
theorem mxg (x y : Int32) : mx x y = f_X7_greater x y := by
  unfold mx f_X7_greater
  by_cases c : x < y
  · rw [if_pos c, if_pos (Int32.le_of_lt c)]
  · rw [if_neg c]
    by_cases d : x ≤ y
    · rw [if_pos d]; exact tEq (by have h1 := le_iff.mp d; have h2 : ¬ _ := fun z => c (lt_iff.mpr z); omega)
    · rw [if_neg d]
theorem mnl (x y : Int32) : mn x y = f_X7_lesser x y := by
  unfold mn f_X7_lesser
  by_cases c : y < x
  · rw [if_pos c, if_pos (Int32.le_of_lt c)]
  · rw [if_neg c]
    by_cases d : y ≤ x
    · rw [if_pos d]; exact tEq (by have h1 := le_iff.mp d; have h2 : ¬ _ := fun z => c (lt_iff.mpr z); omega)
    · rw [if_neg d]
theorem grT (x y : Int32) : (f_X7_greater x y).toInt = if x.toInt ≤ y.toInt then y.toInt else x.toInt := by
  unfold f_X7_greater
  by_cases c : x ≤ y
  · rw [if_pos c, if_pos (le_iff.mp c)]
  · rw [if_neg c, if_neg (fun z => c (le_iff.mpr z))]
theorem leT (x y : Int32) : (f_X7_lesser x y).toInt = if y.toInt ≤ x.toInt then y.toInt else x.toInt := by
  unfold f_X7_lesser
  by_cases c : y ≤ x
  · rw [if_pos c, if_pos (le_iff.mp c)]
  · rw [if_neg c, if_neg (fun z => c (le_iff.mpr z))]
theorem uw {n : F1} {j a k : Nat} {v : Int32} (h : k ≠ a) : upd n (10 + 16 * j + a) v (10 + 16 * j + k) = n (10 + 16 * j + k) := pk_un (by omega)
theorem lat {j : Nat} {w fm n : F1} {tb : Int} (hM : MOK n) (hj : j < 4) (h : Rw j w fm n) (hI : Iw j tb n) (h1 : 1 ≤ kN j n) : f_X5_latest w fm = f_X7_measured n j ∧ bd (f_X7_measured n j) 0 60000 := by
  obtain ⟨hk, h5⟩ := kN_eq hM hj
  have hw10 : w 10 = nI (kN j n) := by rw [h.1 10 (by omega)]; exact hk
  have e : 10 + 16 * j + (11 + kN j n - 1) = 10 + 16 * j + 11 + (kN j n - 1) := by omega
  constructor
  · unfold f_X5_latest f_X7_measured
    rw [hw10, if_neg (nI_nle (by omega) (by omega)), sb_m1s (by omega), nI_clamp (by omega), h.2 _ (by omega), e]
  · unfold f_X7_measured; rw [e]; exact hI.2.2.2.2.2 _ (by omega)
theorem foll {x m : Int32} {w n : F1} {j : Nat} (hw : w 7 = n (10 + 16 * j + 7)) (hx : bd x 0 60000) (hm : bd m 0 60000) : (if w 7 = 0 then mx x m else x) = (if n (10 + 16 * j + 7) = 0 then f_X7_greater x m else x) ∧ bd (if n (10 + 16 * j + 7) = 0 then f_X7_greater x m else x) 0 60000 := by
  rw [hw, mxg]
  refine ⟨rfl, ?_⟩
  split
  · unfold bd; rw [grT]; obtain ⟨a, b⟩ := hx; obtain ⟨c, d⟩ := hm; split <;> omega
  · exact hx
theorem st_refer {z w0 w1 w2 w3 f0 f1 f2 f3 n : F1} {tb : Int} (hM : MOK n) (hz : z 0 = n 4) (b4 : bd (n 4) 0 60000)
    (r0 : Rw 0 w0 f0 n) (r1 : Rw 1 w1 f1 n) (r2 : Rw 2 w2 f2 n) (r3 : Rw 3 w3 f3 n) (i0 : Iw 0 tb n) (i1 : Iw 1 tb n) (i2 : Iw 2 tb n) (i3 : Iw 3 tb n) (k0 : 1 ≤ kN 0 n) (k1 : 1 ≤ kN 1 n) (k2 : 1 ≤ kN 2 n) (k3 : 1 ≤ kN 3 n) :
    v_X1_followReference_9 z w0 w1 w2 w3 f0 f1 f2 f3 = v_X7_refers_9 n ∧ bd (v_X7_refers_9 n) 0 60000 := by
  obtain ⟨l0, m0⟩ := lat hM (by omega) r0 i0 k0
  obtain ⟨l1, m1⟩ := lat hM (by omega) r1 i1 k1
  obtain ⟨l2, m2⟩ := lat hM (by omega) r2 i2 k2
  obtain ⟨l3, m3⟩ := lat hM (by omega) r3 i3 k3
  obtain ⟨e0, b0⟩ := foll (j := 0) (r0.1 7 (by omega)) (show bd 0 0 60000 from ⟨by decide, by decide⟩) m0
  obtain ⟨e1, b1⟩ := foll (j := 1) (r1.1 7 (by omega)) b0 m1
  obtain ⟨e2, b2⟩ := foll (j := 2) (r2.1 7 (by omega)) b1 m2
  obtain ⟨e3, b3⟩ := foll (j := 3) (r3.1 7 (by omega)) b2 m3
  have c7 : v_X1_followReference_7 w0 w1 w2 w3 f0 f1 f2 f3 = v_X7_refers_7 n := by
    unfold v_X1_followReference_7 v_X1_followReference_5 v_X1_followReference_3 v_X1_followReference_1
    rw [l0, l1, l2, l3, e0, e1, e2, e3]; rfl
  have b7 : bd (v_X7_refers_7 n) 0 60000 := b3
  unfold v_X1_followReference_9 v_X7_refers_9
  rw [c7, hz, mxg, mnl]
  refine ⟨rfl, ?_⟩
  obtain ⟨p1, p2⟩ := b7
  obtain ⟨q1, q2⟩ := b4
  have s1 : (n 4 - 120).toInt = (n 4).toInt - 120 := tS (by show _ ≤ _ - (120 : Int); omega) (by show _ - (120 : Int) < _; omega)
  have s2 : (n 4 + 60).toInt = (n 4).toInt + 60 := tA (by show _ ≤ _ + (60 : Int); omega) (by show _ + (60 : Int) < _; omega)
  split
  · unfold bd; rw [grT, s1]; split <;> omega
  · unfold bd; rw [leT, s2]; split <;> omega
theorem st_est {j : Nat} {w fm n : F1} {tb : Int} {rf : Int32} (hM : MOK n) (hj : j < 4) (hr : rf = n 4) (b4 : bd (n 4) 0 60000) (h : Rw j w fm n) (hI : Iw j tb n) (h1 : 1 ≤ kN j n) : Rw j (f_X5_estimateSlip_h w fm rf) fm n ∧ f_X5_estimateSlip_h w fm rf 12 = f_X7_estimated n j ∧ f_X5_estimateSlip_h w fm rf 11 = w 11 := by
  obtain ⟨l0, m0⟩ := lat hM hj h hI h1
  obtain ⟨hk, h5⟩ := kN_eq hM hj
  subst hr
  refine ⟨⟨fun k hk => by unfold f_X5_estimateSlip_h; rw [pk_un (by omega)]; exact h.1 k hk, h.2⟩, ?_, ?_⟩
  · unfold f_X5_estimateSlip_h
    rw [pk_us]
    unfold v_X5_estimateSlip_1 f_X7_estimated
    rw [l0, if_neg (show ¬ n (10 + 16 * j + 10) = 0 by rw [hk]; exact nI_ne0 (by omega) (by omega))]
    exact estQ b4 m0
  · unfold f_X5_estimateSlip_h; exact pk_un (by decide)
theorem meas_ag {j : Nat} {n m : F1} (a : Ag (10 + 16 * j + 10) (26 + 16 * j) n m) (hk : kN j n ≤ 5) : f_X7_measured m j = f_X7_measured n j ∧ kN j m = kN j n := by
  have e : kN j m = kN j n := by unfold kN; rw [a _ (by omega) (by omega)]
  refine ⟨?_, e⟩
  unfold f_X7_measured; rw [e, a _ (by omega) (by omega)]
theorem acc_ag {j : Nat} {n m : F1} (a : Ag (10 + 16 * j + 10) (26 + 16 * j) n m) (hk : kN j n ≤ 5) : f_X7_acceleration m j = f_X7_acceleration n j := by
  unfold f_X7_acceleration
  rw [(meas_ag a hk).1, a (10 + 16 * j + 10) (by omega) (by omega), a (10 + 16 * j + 11) (by omega) (by omega)]
theorem est_ag {j : Nat} {n m : F1} (a : Ag (10 + 16 * j + 10) (26 + 16 * j) n m) (h4 : m 4 = n 4) (hk : kN j n ≤ 5) : f_X7_estimated m j = f_X7_estimated n j := by
  unfold f_X7_estimated
  rw [(meas_ag a hk).1, a (10 + 16 * j + 10) (by omega) (by omega), h4]
theorem st_suspect {j : Nat} {w fm n z : F1} {L : LogS} {tb : Int} {T : Int32} (hM : MOK n) (hj : j < 4) (hz : z 0 = n 4) (hT : T = n 2) (h : Rw j w fm n) (hI : Iw j tb n) (h1 : 1 ≤ kN j n) (hL : Rl L n) :
    Rw j (susW z w fm) fm (f_X7_suspects_a n j) ∧ Rl (susL T (nI j) z w fm L) (f_X7_suspects_a n j) ∧ Iw j tb (f_X7_suspects_a n j) ∧ (∀ k, 10 ≤ k → susW z w fm k = w k) ∧ (∀ q, q < 132 → q ≠ 10 + 16 * j + 7 → q ≠ 10 + 16 * j + 8 → f_X7_suspects_a n j q = n q) := by
  obtain ⟨l0, m0⟩ := lat hM hj h hI h1
  obtain ⟨hk, h5⟩ := kN_eq hM hj
  have hv : v_X1_suspect_0_3 z w fm = v_X7_suspects_1 n j := by
    unfold v_X1_suspect_0_3 v_X1_suspect_0_1 v_X7_suspects_1
    rw [l0, hz, h.1 8 (by omega)]
    by_cases c : f_X7_measured n j = 0
    · rw [if_pos c, if_pos c]
      by_cases d : n 4 < 3000
      · rw [if_pos d, if_pos d, if_pos rfl]
      · rw [if_neg d, if_neg d, if_neg (by decide)]
    · rw [if_neg c, if_neg c, if_pos rfl]
  have h7 := h.1 7 (by omega)
  rcases hI.2.2.2.1 with o | o
  · have hw7 : w 7 = 0 := by rw [h7]; exact o
    have hn7 : ¬ n (10 + 16 * j + 7) = 1 := by rw [o]; decide
    have e8 : (f_X7_sets_a n (v_X7_suspects_1 n j) (10 + 16 * j + 8)) (10 + 16 * j + 8) = v_X7_suspects_1 n j := pk_us
    by_cases d : v_X7_suspects_1 n j = 25
    · have eW : susW z w fm = upd (upd w 8 (v_X7_suspects_1 n j)) 7 1 := by
        unfold susW f_X1_suspect_0_a0; rw [if_pos hw7, hv, if_pos d]
      have eL : susL T (nI j) z w fm L = addL L T 1 (nI j) := by
        unfold susL; rw [if_pos hw7, hv, if_pos d]
      have eN' : f_X7_suspects_a n j = f_X7_logs_a (upd (upd n (10 + 16 * j + 8) (v_X7_suspects_1 n j)) (10 + 16 * j + 7) 1) 1 (nI j) := by
        unfold f_X7_suspects_a; rw [if_neg hn7, e8, if_pos d]; rfl
      have hM' : MOK (upd (upd n (10 + 16 * j + 8) (v_X7_suspects_1 n j)) (10 + 16 * j + 7) 1) := MOK_w hj (by decide) (MOK_w hj (by decide) hM)
      have lo : ∀ q, q < 132 → f_X7_suspects_a n j q = (upd (upd n (10 + 16 * j + 8) (v_X7_suspects_1 n j)) (10 + 16 * j + 7) 1) q := by
        intro q hq; rw [eN']; exact logs_lo _ _ _ q hq
      have out : ∀ q, q < 132 → q ≠ 10 + 16 * j + 7 → q ≠ 10 + 16 * j + 8 → f_X7_suspects_a n j q = n q := by
        intro q h0 h1 h2; rw [lo q h0, pk_un h1, pk_un h2]
      have ek : kN j (f_X7_suspects_a n j) = kN j n := by unfold kN; rw [out _ (by omega) (by omega) (by omega)]
      refine ⟨⟨fun k hk => ?_, fun i hi => ?_⟩, ?_, ?_, fun k hk => by rw [eW, pk_un (by omega), pk_un (by omega)], out⟩
      · rw [eW, lo _ (by omega)]
        by_cases a : k = 7
        · subst a; rw [pk_us, pk_us]
        · rw [pk_un a, uw a]
          by_cases b : k = 8
          · subst b; rw [pk_us, pk_us]
          · rw [pk_un b, uw b]; exact h.1 k hk
      · rw [ek] at hi; rw [out _ (by omega) (by omega) (by omega)]; exact h.2 i hi
      · rw [eL, eN']
        refine st_log hM' (by rw [pk_un (by omega), pk_un (by omega)]; exact hT) (hL.ag (fun q a b => by rw [pk_un (by omega), pk_un (by omega)]) (eN_eq hM).2)
      · obtain ⟨a1, a2, a3, a4, a5, a6⟩ := hI
        refine ⟨by rw [out _ (by omega) (by omega) (by omega)]; exact a1, by rw [out _ (by omega) (by omega) (by omega)]; exact a2, by rw [out _ (by omega) (by omega) (by omega)]; exact a3, by rw [lo _ (by omega), pk_us]; exact isB1, by rw [out _ (by omega) (by omega) (by omega)]; exact a5, fun i hi => ?_⟩
        rw [ek] at hi; rw [out _ (by omega) (by omega) (by omega)]; exact a6 i hi
    · have eW : susW z w fm = upd w 8 (v_X7_suspects_1 n j) := by
        unfold susW f_X1_suspect_0_a0; rw [if_pos hw7, hv, if_neg d]
      have eL : susL T (nI j) z w fm L = L := by
        unfold susL; rw [if_pos hw7, hv, if_neg d]
      have eN' : f_X7_suspects_a n j = upd n (10 + 16 * j + 8) (v_X7_suspects_1 n j) := by
        unfold f_X7_suspects_a; rw [if_neg hn7, e8, if_neg d]; rfl
      have out : ∀ q, q < 132 → q ≠ 10 + 16 * j + 7 → q ≠ 10 + 16 * j + 8 → f_X7_suspects_a n j q = n q := by
        intro q h0 h1 h2; rw [eN', pk_un h2]
      have ek : kN j (f_X7_suspects_a n j) = kN j n := by unfold kN; rw [out _ (by omega) (by omega) (by omega)]
      refine ⟨⟨fun k hk => ?_, fun i hi => ?_⟩, ?_, ?_, fun k hk => by rw [eW, pk_un (by omega)], out⟩
      · rw [eW, eN']
        by_cases b : k = 8
        · subst b; rw [pk_us, pk_us]
        · rw [pk_un b, uw b]; exact h.1 k hk
      · rw [ek] at hi; rw [out _ (by omega) (by omega) (by omega)]; exact h.2 i hi
      · rw [eL, eN']
        exact hL.ag (fun q a b => by rw [pk_un (by omega)]) (eN_eq hM).2
      · obtain ⟨a1, a2, a3, a4, a5, a6⟩ := hI
        refine ⟨by rw [out _ (by omega) (by omega) (by omega)]; exact a1, by rw [out _ (by omega) (by omega) (by omega)]; exact a2, by rw [out _ (by omega) (by omega) (by omega)]; exact a3, by rw [eN', pk_un (by omega)]; exact a4, by rw [out _ (by omega) (by omega) (by omega)]; exact a5, fun i hi => ?_⟩
        rw [ek] at hi; rw [out _ (by omega) (by omega) (by omega)]; exact a6 i hi
  · have hw7 : ¬ w 7 = 0 := by rw [h7, o]; decide
    have eN' : f_X7_suspects_a n j = n := by unfold f_X7_suspects_a; rw [if_pos o]
    have eW : susW z w fm = w := by unfold susW; rw [if_neg hw7]
    have eL : susL T (nI j) z w fm L = L := by unfold susL; rw [if_neg hw7]
    rw [eN', eW, eL]
    exact ⟨h, hL, hI, fun _ _ => rfl, fun _ _ _ _ => rfl⟩
