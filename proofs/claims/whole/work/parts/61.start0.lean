/-! from the entry to the loop -/
def saOf (s : State) (k : Nat) : Nat := match (Term.string RX6 k).eval #[] s none [] s with
  | some (.ref a) => a
  | _ => 0
theorem saOf_ok {args : Array Value} {s : State} {k : Nat} {tx : String} (h1 : (Cond.stringRef RX6 k tx).before args s = true) (h2 : (Cond.exactly (Term.string RX6 k) "java/lang/String").before args s = true) : vk_R RX6 k tx (saOf s k) s := by
  obtain ⟨a, _, _, _, he, -⟩ := Cond.exactly_spec h2
  have e : (Term.string RX6 k).eval #[] s none [] s = some (.ref a) := he
  have e2 : saOf s k = a := by unfold saOf; rw [e]
  rw [e2]; exact ⟨h1, e⟩
theorem arr_p {args : Array Value} {s : State} {ty : FieldType} (h : (Cond.arrayClass ty).before args s = true) : ∃ cA : ClassId, ArrOfT s cA ty ∧ s.vm.findClass ("[" ++ ty.toString) = some cA := by
  obtain ⟨cA, kA, comp, h1, h2, h3⟩ := Cond.arrayClass_spec h
  exact ⟨cA, fun n z => ⟨fun k h => (by cases h), kA, h2, comp, h3⟩, h1⟩
theorem arr_o {s : State} {Cn : String} (h : va_AO Cn s) : ∃ cA : ClassId, ArrOfT s cA (.object Cn) ∧ va_RA s cA (.object Cn) := by
  obtain ⟨comp, cA, kA, h1, h2, h3, h4, h5⟩ := Cond.arrayOver_spec h
  exact ⟨cA, fun n z => ⟨fun k h => (by cases h), kA, h3, comp, h4⟩, kA, comp, h3, h4, h1, h5⟩
theorem st_K {args : Array Value} {s : State} (hW : ∀ w ∈ Wall, w.before args s = true) (hT : ∀ w ∈ lw_tbl, w.before args s = true) : ∃ (D : va_G) (ty : Nat → ClassId), KK D ty s ∧ AO s := by
  have a1 : va_AO RX0 s := va_AO.of (hT _ (by decide +kernel))
  have a2 : va_AO RX5 s := va_AO.of (hT _ (by decide +kernel))
  obtain ⟨t0, t0a, t0b⟩ := arr_p (hW _ wa_int)
  obtain ⟨t1, t1a, t1b⟩ := arr_o a1
  obtain ⟨t2, t2a, t2b⟩ := arr_o a2
  obtain ⟨t3, t3a, t3b⟩ := arr_p (hW _ wa_long)
  obtain ⟨c0, i0, k0⟩ := u_known (ws := Wall) hW wX0 (hW _ wt_X0)
  obtain ⟨c1, i1, k1⟩ := u_known (ws := Wall) hW wX1 (hW _ wt_X1)
  obtain ⟨c2, i2, k2⟩ := u_known (ws := Wall) hW wX2 (hW _ wt_X2)
  obtain ⟨c3, i3, k3⟩ := u_known (ws := Wall) hW wX3 (hW _ wt_X3)
  obtain ⟨c4, i4, k4⟩ := u_known (ws := Wall) hW wX4 (hW _ wt_X4)
  obtain ⟨c5, i5, k5⟩ := u_known (ws := Wall) hW wX5 (hW _ wt_X5)
  obtain ⟨c6, i6, k6⟩ := u_known (ws := Wall) hW wX6 (hW _ wt_X6)
  obtain ⟨c7, i7, k7⟩ := u_known (ws := Wall) hW wX7 (hW _ wt_X7)
  refine ⟨(fun k => match k with | 0 => c0 | 1 => c1 | 2 => c2 | 3 => c3 | 4 => c4 | 5 => c5 | 6 => c6 | _ => c7, fun k => match k with | 0 => i0 | 1 => i1 | 2 => i2 | 3 => i3 | 4 => i4 | 5 => i5 | 6 => i6 | _ => i7), fun k => match k with | 0 => t0 | 1 => t1 | 2 => t2 | _ => t3, ⟨⟨?_, ?_⟩, ?_⟩, a1, a2⟩
  · intro k q hq
    match k, hq with
    | 0, hq => cases hq; exact k0
    | 1, hq => cases hq; exact k1
    | 2, hq => cases hq; exact k2
    | 3, hq => cases hq; exact k3
    | 4, hq => cases hq; exact k4
    | 5, hq => cases hq; exact k5
    | 6, hq => cases hq; exact k6
    | 7, hq => cases hq; exact k7
    | k + 8, hq => simp at hq
  · intro k q hq
    match k, hq with
    | 0, hq => cases hq; exact ⟨t0a, t0b⟩
    | 1, hq => cases hq; exact ⟨t1a, t1b⟩
    | 2, hq => cases hq; exact ⟨t2a, t2b⟩
    | 3, hq => cases hq; exact ⟨t3a, t3b⟩
    | k + 4, hq => simp at hq
  · intro w hw
    have h1 : ∀ w ∈ nestW, w ∈ lw_tbl := by decide +kernel
    have h2 : ∀ w ∈ nestW, w.onTables = true := by decide +kernel
    exact va_Nw.of (h2 w hw) (hT w (h1 w hw))
theorem st_E {args : Array Value} {s : State} (hT : ∀ w ∈ lw_tbl, w.before args s = true) (hg : (Jvm.Cond.and given_1 narrow_1).before args s = true) : EX (saOf s) s := by
  have hs := flat_of_before _ hg
  refine ⟨fun x hx => ?_, fun q hq => ?_, fun q hq => ?_, va_Nc.of (hs _ (by decide +kernel)), va_Nc.of (hs _ (by decide +kernel))⟩
  · have h1 : ∀ x ∈ nwD, Cond.declares x ∈ lw_tbl := by decide +kernel
    exact va_Nw.of rfl (hT _ (h1 x hx))
  · have h1 : ∀ q ∈ nwC, Cond.castable q.1 q.2 ∈ lw_tbl := by decide +kernel
    exact va_Nw.of rfl (hT _ (h1 q hq))
  · have h1 : ∀ q ∈ strL, Cond.stringRef RX6 q.1 q.2 ∈ lw_tbl := by decide +kernel
    have h2 : ∀ q ∈ strL, Cond.exactly (Term.string RX6 q.1) "java/lang/String" ∈ flatC (Jvm.Cond.and given_1 narrow_1) := by decide +kernel
    exact saOf_ok (hT _ (h1 q hq)) (hs _ (h2 q hq))
theorem st_Z {args : Array Value} {s : State} (hT : ∀ w ∈ lw_tbl, w.before args s = true) (hg : (Jvm.Cond.and given_1 narrow_1).before args s = true) : ZZ (fun q => s.heap.size ≤ q) s s.heap := by
  have hs := flat_of_before _ hg
  exact ⟨vx_Zqof (hT _ (by decide +kernel)) (hT _ (by decide +kernel)) (hs _ (by decide +kernel)) (fun a h z => absurd (show s.heap.size ≤ a from z) (by omega)), vx_Zqof (hT _ (by decide +kernel)) (hT _ (by decide +kernel)) (hs _ (by decide +kernel)) (fun a h z => absurd (show s.heap.size ≤ a from z) (by omega))⟩
