/-! what stands at the start: the classes, the arrays' classes, the two tables -/
theorem tw_1 {w : Cond} (p : Nat) (h : tables_1_1[p]? = some w) : w ∈ lw_tbl := List.mem_append_right _ (List.mem_append_left _ (List.mem_of_getElem? h))
theorem tw_2 {w : Cond} (p : Nat) (h : tables_1_2[p]? = some w) : w ∈ lw_tbl := List.mem_append_right _ (List.mem_append_right _ (List.mem_append_left _ (List.mem_of_getElem? h)))
theorem arr_p {s : State} {args : Array Value} {ty : FieldType} (h : (Cond.arrayClass ty).before args s = true) : ∃ cA, ArrOfT s cA ty ∧ s.vm.findClass ("[" ++ ty.toString) = some cA := by
  obtain ⟨c, k, comp, h1, h2, h3⟩ := Cond.arrayClass_spec h
  exact ⟨c, fun n z => ⟨fun k h => (by cases h), k, h2, comp, h3⟩, h1⟩
theorem arr_o {s : State} {args : Array Value} {C : String} (h : (Cond.arrayOver (.object C)).before args s = true) : ∃ cA, ArrOfT s cA (.object C) ∧ va_RA s cA (.object C) := by
  obtain ⟨comp, c, k, h1, h2, h3, h4, h5⟩ := Cond.arrayOver_spec h
  exact ⟨c, fun n z => ⟨fun k h => (by cases h), k, h3, comp, h4⟩, k, comp, h3, h4, h1, h5⟩
/-- a table that a static field holds: where it lies, what its cell is -/
theorem tab_of {s : State} {args : Array Value} {tm : Term} {f : Nat → Int32} (harr : (Cond.arrayOf tm .int).before args s = true) (hlen : (Cond.eq (.length tm) (.int 5)).before args s = true) (h0 : (Cond.eq (.elem tm (.int 0)) (.int (f 0))).before args s = true) (h1 : (Cond.eq (.elem tm (.int 1)) (.int (f 1))).before args s = true) (h2 : (Cond.eq (.elem tm (.int 2)) (.int (f 2))).before args s = true) (h3 : (Cond.eq (.elem tm (.int 3)) (.int (f 3))).before args s = true) (h4 : (Cond.eq (.elem tm (.int 4)) (.int (f 4))).before args s = true) : ∃ (t : Nat) (cell : Cell), tm.eval args s none [] s = some (.ref t) ∧ s.heap[t]? = some cell ∧ cell.vm.isStatics = false ∧ s.isArrayOf cell .int ∧ cell.vm ≠ .unknown ∧ 5 ≤ cell.slots.size ∧ ∀ i, i < 5 → cell.slots[i]? = some (.int (f i)) := by
  have hl := va_eqt hlen
  obtain ⟨t, ht, cell, g1, g2, g3, g4, g5, g6, g7⟩ := va_Tof (N := 5) (f := fun j => .int (f j)) (A := fun _ => False) (by decide) harr hl (fun j hj => by
    match j, hj with
    | 0, _ => exact va_eqt h0
    | 1, _ => exact va_eqt h1
    | 2, _ => exact va_eqt h2
    | 3, _ => exact va_eqt h3
    | 4, _ => exact va_eqt h4
    | n + 5, hj => exact absurd hj (by omega)) (fun _ _ z => z)
  obtain ⟨t', cell', ht', hat, -⟩ := Term.length_spec hl
  obtain ⟨q1, -, q3, -⟩ := State.arrayAt?_spec hat
  cases ht.symm.trans ht'
  cases g1.symm.trans q1
  exact ⟨t, cell, ht, g1, q3, g2, g3, g4, g6⟩
set_option maxRecDepth 20000 in
theorem start_w {s : State} {b : Nat} (hts : ∀ w ∈ lw_tbl, w.before #[Value.ref b] s = true) (hgv : (Jvm.Cond.and given_1 narrow_1).before #[Value.ref b] s = true) : ∃ (E : Ev) (M0 : HM), Tbl E s ∧ Sees E M0 s.heap ∧ ∀ q, ¬ e_wr M0 q := by
  have htW : ∀ w ∈ WS, w.before #[Value.ref b] s = true := fun w hw => hts w (List.mem_filter.mp hw).1
  have hs := flat_of_before _ hgv
  -- the classes
  have hk : ∀ c : Nat, ∃ q : ClassId × (Nat → Nat), c < 8 → u_Kn s (rX c) (tX c) (e_nf c) q.1 q.2 := fun c => by
    by_cases h : c < 8
    · obtain ⟨cC, iS, hK⟩ := u_known (ws := WS) htW (uw_at c h) (htW _ (in_at c h).1)
      exact ⟨(cC, iS), fun _ => hK⟩
    · exact ⟨(0, fun _ => 0), fun z => absurd z h⟩
  obtain ⟨D, hD⟩ := Classical.axiomOfChoice hk
  obtain ⟨a0, r0, n0⟩ := arr_p (htW _ ar_at.1)
  obtain ⟨a1, r1, n1⟩ := arr_p (htW _ ar_at.2)
  have o0 : (Cond.arrayOver (.object RX0)).before #[Value.ref b] s = true := hts _ (tw_1 158 rfl)
  have o4 : (Cond.arrayOver (.object RX4)).before #[Value.ref b] s = true := hts _ (tw_1 22 rfl)
  have o5 : (Cond.arrayOver (.object RX5)).before #[Value.ref b] s = true := hts _ (tw_1 156 rfl)
  obtain ⟨a2, r2, n2⟩ := arr_o o0
  obtain ⟨a3, r3, n3⟩ := arr_o o4
  obtain ⟨a4, r4, n4⟩ := arr_o o5
  -- the tables
  obtain ⟨t0, e0, ev0, hc0, st0, ar0, un0, sz0, el0⟩ := tab_of (tm := .static "NumberRiver" "STEP_BITS" "[I") (f := e_sa 0) (hs _ (by decide +kernel)) (hs _ (by decide +kernel)) (hs _ (by decide +kernel)) (hs _ (by decide +kernel)) (hs _ (by decide +kernel)) (hs _ (by decide +kernel)) (hs _ (by decide +kernel))
  obtain ⟨t1, e1, ev1, hc1, st1, ar1, un1, sz1, el1⟩ := tab_of (tm := .static "NumberRiver" "STEP_BASE" "[I") (f := e_sa 1) (hs _ (by decide +kernel)) (hs _ (by decide +kernel)) (hs _ (by decide +kernel)) (hs _ (by decide +kernel)) (hs _ (by decide +kernel)) (hs _ (by decide +kernel)) (hs _ (by decide +kernel))
  obtain ⟨c, k, i, f, a, cell, p1, p2, p3, p4, p5, p6, -⟩ := Cond.laysStatic_spec (hts (.laysStatic "NumberRiver" "STEP_BITS" "[I") (tw_2 148 rfl))
  obtain ⟨c', k', i', f', a', cell', q1, q2, q3, q4, q5, q6, -⟩ := Cond.laysStatic_spec (hts (.laysStatic "NumberRiver" "STEP_BASE" "[I") (tw_2 146 rfl))
  have hin := Cond.initialized_spec p1 (State.fieldFound?_spec p2).1 (hts (.initialized "NumberRiver") (tw_1 1 rfl))
  cases p1.symm.trans q1
  cases (State.fieldFound?_spec p2).1.symm.trans (State.fieldFound?_spec q2).1
  cases p4.symm.trans q4
  cases p5.symm.trans q5
  obtain ⟨-, y1, y2, y3, y4, -, y6⟩ := Term.static_spec p2 ev0
  cases p4.symm.trans y3
  cases p5.symm.trans y4
  obtain ⟨-, x1, x2, x3, x4, -, x6⟩ := Term.static_spec q2 ev1
  cases p4.symm.trans x3
  cases p5.symm.trans x4
  have nz0 : ¬ a = t0 := fun e => by
    rw [e] at p5
    cases p5.symm.trans hc0
    rw [st0] at p6; cases p6
  have nz1 : ¬ a = t1 := fun e => by
    rw [e] at p5
    cases p5.symm.trans hc1
    rw [st1] at p6; cases p6
  have n10 : ¬ t1 = t0 := fun e => by
    rw [e] at hc1
    cases hc0.symm.trans hc1
    have w0 := el0 1 (by decide)
    have w1 := el1 1 (by decide)
    rw [w0] at w1
    have : e_sa 0 1 = e_sa 1 1 := Value.int.inj (Option.some.inj w1)
    exact absurd this (by decide)
  let E : Ev := ((fun c => (D c).1, fun c => (D c).2), (fun k => if k = 0 then a0 else if k = 1 then a1 else if k = 2 then a2 else if k = 3 then a3 else a4), a, cell, (fun j => if j = 0 then t0 else t1), (fun j => if j = 0 then e0 else e1))
  let M0 : HM := ((fun q => if q = t0 then 20 else if q = t1 then 20 else 0), (fun _ => 5), (fun _ _ => 0), (fun _ _ => 0), (fun _ _ => none), (fun q => if q = t0 then e_sa 0 else e_sa 1), (fun _ _ => 0), (fun _ _ => none))
  refine ⟨E, M0, ⟨⟨fun c q hq => ?_, fun k q hq => ?_⟩, fun w hw => ?_, ⟨va_AO.of o0, va_AO.of o4, va_AO.of o5⟩, fun j hj => ?_, ?_, fun j hj => ?_⟩, ⟨fun q hq => ?_, ⟨?_, p5⟩, fun q hq => ?_, fun j hj => ?_⟩, fun q hq => ?_⟩
  · have hc8 : c < 8 := (List.getElem?_eq_some_iff.mp hq).1
    rw [vw_at c hc8] at hq
    cases hq
    exact hD c hc8
  · match k, hq with
    | 0, hq => cases hq; exact ⟨r0, n0⟩
    | 1, hq => cases hq; exact ⟨r1, n1⟩
    | 2, hq => cases hq; exact ⟨r2, n2⟩
    | 3, hq => cases hq; exact ⟨r3, n3⟩
    | 4, hq => cases hq; exact ⟨r4, n4⟩
    | n + 5, hq => simp [e_tys] at hq
  · have hn := (List.mem_filter.mp hw).2
    have h := hts w (List.mem_append_right _ (List.mem_filter.mp hw).1)
    cases w <;> first | exact va_Nw.of rfl h | (simp [isNest] at hn)
  · match j, hj with
    | 0, _ => exact ⟨_, _, _, _, p2, p3, hin, p4, y6⟩
    | 1, _ => exact ⟨_, _, _, _, q2, q3, hin, p4, x6⟩
    | n + 2, hj => exact absurd hj (by omega)
  · exact fun e => by rw [e] at p6; cases p6
  · match j, hj with
    | 0, _ => exact ⟨ar0, un0, sz0, el0⟩
    | 1, _ => exact ⟨ar1, un1, sz1, el1⟩
    | n + 2, hj => exact absurd hj (by omega)
  · exfalso
    obtain ⟨h1, h2⟩ := hq
    change ¬ (if q = t0 then 20 else if q = t1 then 20 else 0) = 0 at h1
    change ¬ (if q = t0 then 20 else if q = t1 then 20 else 0) = 20 at h2
    by_cases z0 : q = t0
    · rw [if_pos z0] at h2; exact h2 rfl
    · rw [if_neg z0] at h1 h2
      by_cases z1 : q = t1
      · rw [if_pos z1] at h2; exact h2 rfl
      · rw [if_neg z1] at h1; exact h1 rfl
  · show (if a = t0 then 20 else if a = t1 then 20 else 0) = 0
    rw [if_neg nz0, if_neg nz1]
  · change (if q = t0 then 20 else if q = t1 then 20 else 0) = 20 at hq
    by_cases z0 : q = t0
    · exact ⟨0, by decide, z0⟩
    · rw [if_neg z0] at hq
      by_cases z1 : q = t1
      · exact ⟨1, by decide, z1⟩
      · rw [if_neg z1] at hq; cases hq
  · match j, hj with
    | 0, _ =>
      refine ⟨?_, rfl, ?_, hc0⟩
      · show (if t0 = t0 then 20 else if t0 = t1 then 20 else 0) = 20
        rw [if_pos rfl]
      · show (if t0 = t0 then e_sa 0 else e_sa 1) = e_sa 0
        rw [if_pos rfl]
    | 1, _ =>
      refine ⟨?_, rfl, ?_, hc1⟩
      · show (if t1 = t0 then 20 else if t1 = t1 then 20 else 0) = 20
        rw [if_neg n10, if_pos rfl]
      · show (if t1 = t0 then e_sa 0 else e_sa 1) = e_sa 1
        rw [if_neg n10]
    | n + 2, hj => exact absurd hj (by omega)
  · obtain ⟨h1, h2⟩ := hq
    change ¬ (if q = t0 then 20 else if q = t1 then 20 else 0) = 0 at h1
    change ¬ (if q = t0 then 20 else if q = t1 then 20 else 0) = 20 at h2
    by_cases z0 : q = t0
    · rw [if_pos z0] at h2; exact h2 rfl
    · rw [if_neg z0] at h1 h2
      by_cases z1 : q = t1
      · rw [if_pos z1] at h2; exact h2 rfl
      · rw [if_neg z1] at h1; exact h1 rfl
