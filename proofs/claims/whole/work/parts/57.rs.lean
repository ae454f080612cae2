/-! the relation of the two objects -/
theorem RC.car {tb : Int} {u : CarS} {n : F1} (h : RC tb u n) : CarOK u := by
  refine ⟨?_, ?_, ?_, ?_, ⟨h.L.1, ?_⟩, ?_, ?_⟩
  · unfold kpOK; rw [h.w0.1.1 10 (by decide)]; exact h.M.2.2.2 0 (by decide)
  · unfold kpOK; rw [h.w1.1.1 10 (by decide)]; exact h.M.2.2.2 1 (by decide)
  · unfold kpOK; rw [h.w2.1.1 10 (by decide)]; exact h.M.2.2.2 2 (by decide)
  · unfold kpOK; rw [h.w3.1.1 10 (by decide)]; exact h.M.2.2.2 3 (by decide)
  · have a : u.2 1 = eN n := h.L.2.1
    have b := (eN_eq h.M).2
    omega
  · have a : u.2 2 = sN n := h.r.1
    have b := (sN_eq h.M).2
    unfold rdOK; omega
  · have a : u.2 3 = pN n := h.p.1
    have b := (pN_eq h.M).2
    unfold pnOK; omega
theorem RC.bok {tb : Int} {u : CarS} {n : F1} (h : RC tb u n) : BOK u := by
  refine ⟨?_, ?_, ?_, ?_, ?_, ?_, ?_, ?_, ?_, ?_⟩
  · rw [h.z.2.2.2.2.1]; exact h.i9.2.2.2.1
  · rw [h.z.2.2.2.2.2]; exact h.i9.2.2.2.2
  · rw [h.w0.1.1 7 (by decide)]; exact h.w0.2.1.2.2.2.1
  · rw [h.w1.1.1 7 (by decide)]; exact h.w1.2.1.2.2.2.1
  · rw [h.w2.1.1 7 (by decide)]; exact h.w2.2.1.2.2.2.1
  · rw [h.w3.1.1 7 (by decide)]; exact h.w3.2.1.2.2.2.1
  · rw [h.w0.1.1 9 (by decide)]; exact h.w0.2.1.2.2.2.2.1
  · rw [h.w1.1.1 9 (by decide)]; exact h.w1.2.1.2.2.2.2.1
  · rw [h.w2.1.1 9 (by decide)]; exact h.w2.2.1.2.2.2.2.1
  · rw [h.w3.1.1 9 (by decide)]; exact h.w3.2.1.2.2.2.2.1
def RS (tb : Int) (sn : Nat) (u u0 u1 u2 : CarS) (g n pa : F1) : Prop := sn ≤ 3 ∧ g 0 = nI sn ∧ RC tb u n ∧ (0 < sn → RC tb u0 (fun k => pa (253 * 0 + k))) ∧ (1 < sn → RC tb u1 (fun k => pa (253 * 1 + k))) ∧ (2 < sn → RC tb u2 (fun k => pa (253 * 2 + k)))
section RSs
variable {tb tc : Int} {sn : Nat} {u v u0 u1 u2 : CarS} {g q n m pa : F1}
theorem RS.le (h : RS tb sn u u0 u1 u2 g n pa) : sn ≤ 3 := h.1
theorem RS.g0 (h : RS tb sn u u0 u1 u2 g n pa) : g 0 = nI sn := h.2.1
theorem RS.c (h : RS tb sn u u0 u1 u2 g n pa) : RC tb u n := h.2.2.1
theorem RS.same (h : RS tb sn u u0 u1 u2 g n pa) (ht : tb ≤ tc) (e : q 0 = g 0) (hm : Ag 0 253 n m) : RS tc sn u u0 u1 u2 q m pa :=
  ⟨h.1, e.trans h.2.1, (h.c.row hm).mono ht, fun z => (h.2.2.2.1 z).mono ht, fun z => (h.2.2.2.2.1 z).mono ht, fun z => (h.2.2.2.2.2 z).mono ht⟩
theorem RS.M (h : RS tb sn u u0 u1 u2 g n pa) : ∀ i, i < sn → MOK (fun k => pa (253 * i + k)) := by
  intro i hi
  have := h.1
  rcases (show i = 0 ∨ i = 1 ∨ i = 2 by omega) with e | e | e <;> subst e
  · exact (h.2.2.2.1 hi).M
  · exact (h.2.2.2.2.1 hi).M
  · exact (h.2.2.2.2.2 hi).M
theorem sv_o (q : F1) (k : Nat) : f_X7_saves_o q k 0 = nI (svM k + 1) := pk_us
theorem sv_rel0 (h : RS tb 0 u u0 u1 u2 g n pa) (hc : RC tc v m) (ht : tb ≤ tc) : RS tc 1 v (b_X0_copyFrom_u u0 u) u1 u2 (f_X7_saves_o q 0) m (f_X7_saves_b n pa 0) := by
  refine ⟨by decide, by rw [sv_o]; rfl, hc, fun _ => ?_, fun z => absurd z (by decide), fun z => absurd z (by decide)⟩
  refine (st_copy (h.c.row ?_)).mono ht
  intro k a b
  show f_X7_saves_b n pa 0 (253 * 0 + k) = n k
  unfold f_X7_saves_b
  rw [pk_cpy_in (by show 253 * svM 0 ≤ _; unfold svM; rw [if_neg (by decide)]; omega) (by show _ < 253 * svM 0 + 253; unfold svM; rw [if_neg (by decide)]; omega)]
  exact congrArg n (by unfold svM; rw [if_neg (by decide)]; omega)
theorem sv_rel1 (h : RS tb 1 u u0 u1 u2 g n pa) (hc : RC tc v m) (ht : tb ≤ tc) : RS tc 2 v u0 (b_X0_copyFrom_u u1 u) u2 (f_X7_saves_o q 1) m (f_X7_saves_b n pa 1) := by
  have e1 : svM 1 = 1 := rfl
  refine ⟨by decide, by rw [sv_o]; rfl, hc, fun _ => ((h.2.2.2.1 (by decide)).row ?_).mono ht, fun _ => (st_copy (h.c.row ?_)).mono ht, fun z => absurd z (by decide)⟩
  · intro k a b
    show f_X7_saves_b n pa 1 (253 * 0 + k) = pa (253 * 0 + k)
    unfold f_X7_saves_b v_X7_saves_3
    rw [e1, pk_cpy_out (Or.inl (by omega)), if_neg (show ¬ nI 1 = 3 by decide)]
  · intro k a b
    show f_X7_saves_b n pa 1 (253 * 1 + k) = n k
    unfold f_X7_saves_b
    rw [e1, pk_cpy_in (by omega) (by omega)]
    exact congrArg n (by omega)
theorem sv_rel2 (h : RS tb 2 u u0 u1 u2 g n pa) (hc : RC tc v m) (ht : tb ≤ tc) : RS tc 3 v u0 u1 (b_X0_copyFrom_u u2 u) (f_X7_saves_o q 2) m (f_X7_saves_b n pa 2) := by
  have e1 : svM 2 = 2 := rfl
  refine ⟨by decide, by rw [sv_o]; rfl, hc, fun _ => ((h.2.2.2.1 (by decide)).row ?_).mono ht, fun _ => ((h.2.2.2.2.1 (by decide)).row ?_).mono ht, fun _ => (st_copy (h.c.row ?_)).mono ht⟩
  · intro k a b
    show f_X7_saves_b n pa 2 (253 * 0 + k) = pa (253 * 0 + k)
    unfold f_X7_saves_b v_X7_saves_3
    rw [e1, pk_cpy_out (Or.inl (by omega)), if_neg (show ¬ nI 2 = 3 by decide)]
  · intro k a b
    show f_X7_saves_b n pa 2 (253 * 1 + k) = pa (253 * 1 + k)
    unfold f_X7_saves_b v_X7_saves_3
    rw [e1, pk_cpy_out (Or.inl (by omega)), if_neg (show ¬ nI 2 = 3 by decide)]
  · intro k a b
    show f_X7_saves_b n pa 2 (253 * 2 + k) = n k
    unfold f_X7_saves_b
    rw [e1, pk_cpy_in (by omega) (by omega)]
    exact congrArg n (by omega)
theorem sv_rel3 (h : RS tb 3 u u0 u1 u2 g n pa) (hc : RC tc v m) (ht : tb ≤ tc) : RS tc 3 v u1 u2 (b_X0_copyFrom_u u0 u) (f_X7_saves_o q 3) m (f_X7_saves_b n pa 3) := by
  have e1 : svM 3 = 2 := rfl
  refine ⟨by decide, by rw [sv_o]; rfl, hc, fun _ => ((h.2.2.2.2.1 (by decide)).row ?_).mono ht, fun _ => ((h.2.2.2.2.2 (by decide)).row ?_).mono ht, fun _ => (st_copy (h.c.row ?_)).mono ht⟩
  · intro k a b
    show f_X7_saves_b n pa 3 (253 * 0 + k) = pa (253 * 1 + k)
    unfold f_X7_saves_b v_X7_saves_3
    rw [e1, pk_cpy_out (Or.inl (by omega)), if_pos (show nI 3 = 3 by rfl), pk_cpy_in (by omega) (by omega)]
    exact congrArg pa (by omega)
  · intro k a b
    show f_X7_saves_b n pa 3 (253 * 1 + k) = pa (253 * 2 + k)
    unfold f_X7_saves_b v_X7_saves_3
    rw [e1, pk_cpy_out (Or.inl (by omega)), if_pos (show nI 3 = 3 by rfl), pk_cpy_in (by omega) (by omega)]
    exact congrArg pa (by omega)
  · intro k a b
    show f_X7_saves_b n pa 3 (253 * 2 + k) = n k
    unfold f_X7_saves_b
    rw [e1, pk_cpy_in (by omega) (by omega)]
    exact congrArg n (by omega)
theorem un_rel (h : RS tb sn u u0 u1 u2 g n pa) (hs : 1 ≤ sn) (ht : tb ≤ tc) : RS tc (sn - 1) (b_X0_copyFrom_u u (selU sn u0 u1 u2)) u0 u1 u2 (f_X7_undo_ok_o g sn) (f_X7_undo_ok_a n pa sn) pa := by
  have h3 := h.1
  have cp : ∀ (i : Nat), i = sn - 1 → ∀ k, k < 253 → f_X7_undo_ok_a n pa sn k = pa (253 * i + k) := by
    intro i hi k hk
    unfold f_X7_undo_ok_a
    rw [pk_cpy_in (by omega) (by omega), hi]; exact congrArg pa (by omega)
  refine ⟨by omega, pk_us, ?_, fun z => (h.2.2.2.1 (by omega)).mono ht, fun z => (h.2.2.2.2.1 (by omega)).mono ht, fun z => (h.2.2.2.2.2 (by omega)).mono ht⟩
  refine (st_copy ?_).mono ht
  rcases (show sn = 1 ∨ sn = 2 ∨ sn = 3 by omega) with e | e | e <;> subst e
  · exact (h.2.2.2.1 (by decide)).row (fun k a b => cp 0 rfl k b)
  · exact (h.2.2.2.2.1 (by decide)).row (fun k a b => cp 1 rfl k b)
  · exact (h.2.2.2.2.2 (by decide)).row (fun k a b => cp 2 rfl k b)
theorem un_b (h : RS tb sn u u0 u1 u2 g n pa) (hs : 1 ≤ sn) : BOK (selU sn u0 u1 u2) := by
  have h3 := h.1
  rcases (show sn = 1 ∨ sn = 2 ∨ sn = 3 by omega) with e | e | e <;> subst e
  · exact (h.2.2.2.1 (by decide)).bok
  · exact (h.2.2.2.2.1 (by decide)).bok
  · exact (h.2.2.2.2.2 (by decide)).bok
end RSs
