/-! sums of what was found; sorted lists -/
theorem omn_c (x y : Option Int64) : omn x y = omn y x := by
  cases x with
  | none => cases y <;> rfl
  | some a => cases y with
    | none => rfl
    | some b =>
      show some _ = some _
      congr 1
      have := mx_e a b
      by_cases c : b < a
      · rw [if_pos c, if_neg (fun d => Int64.lt_irrefl (Int64.lt_trans c d))]
      · rw [if_neg c]
        by_cases d : a < b
        · rw [if_pos d]
        · rw [if_neg d]; exact Int64.le_antisymm (Int64.not_lt.mp c) (Int64.not_lt.mp d)
theorem omx_c (x y : Option Int64) : omx x y = omx y x := by
  cases x with
  | none => cases y <;> rfl
  | some a => cases y with
    | none => rfl
    | some b =>
      show some _ = some _
      congr 1
      by_cases c : b < a
      · rw [if_pos c, if_neg (fun d => Int64.lt_irrefl (Int64.lt_trans c d))]
      · rw [if_neg c]
        by_cases d : a < b
        · rw [if_pos d]
        · rw [if_neg d]; exact Int64.le_antisymm (Int64.not_lt.mp d) (Int64.not_lt.mp c)
theorem i64_nlt {a b : Int64} : (¬ a < b) ↔ b.toInt ≤ a.toInt := by rw [Int64.lt_iff_toInt_lt]; omega
theorem omn_a (x y z : Option Int64) : omn (omn x y) z = omn x (omn y z) := by
  cases x with
  | none => rfl
  | some a => cases y with
    | none => rfl
    | some b => cases z with
      | none => rfl
      | some c =>
        show some _ = some _
        congr 1
        simp only [Int64.lt_iff_toInt_lt]
        by_cases h1 : b.toInt < a.toInt <;> by_cases h2 : c.toInt < b.toInt <;> by_cases h3 : c.toInt < a.toInt <;> simp only [h1, h2, h3, if_true, if_false] <;> first | rfl | omega
theorem omx_a (x y z : Option Int64) : omx (omx x y) z = omx x (omx y z) := by
  cases x with
  | none => rfl
  | some a => cases y with
    | none => rfl
    | some b => cases z with
      | none => rfl
      | some c =>
        show some _ = some _
        congr 1
        simp only [Int64.lt_iff_toInt_lt]
        by_cases h1 : b.toInt < a.toInt <;> by_cases h2 : c.toInt < b.toInt <;> by_cases h3 : c.toInt < a.toInt <;> simp only [h1, h2, h3, if_true, if_false] <;> first | rfl | omega
theorem qadd_c (u v : QV) : qadd u v = qadd v u := by
  unfold qadd; rw [Nat.add_comm, Int64.add_comm, omn_c, omx_c]
theorem qadd_a (u v w : QV) : qadd (qadd u v) w = qadd u (qadd v w) := by
  unfold qadd
  simp only
  rw [Nat.add_assoc, Int64.add_assoc, omn_a, omx_a]
theorem qadd_z (u : QV) : qadd q0 u = u := by rw [qadd_c, qadd_0]
theorem qfold_q {α : Type} (f : α → QV) : ∀ (l : List α) (u : QV), qfold f u l = qadd u (qfold f q0 l)
  | [], u => (qadd_0 u).symm
  | x :: l, u => by
    show qfold f (qadd u (f x)) l = qadd u (qfold f (qadd q0 (f x)) l)
    rw [qfold_q f l (qadd u (f x)), qfold_q f l (qadd q0 (f x)), qadd_z, qadd_a]
theorem qfold_app {α : Type} (f : α → QV) (a b : List α) (u : QV) : qfold f u (a ++ b) = qfold f (qfold f u a) b := by
  unfold qfold; rw [List.foldl_append]
/-- strictly rising by times -/
def srt (l : List PT) : Prop := l.Pairwise (fun p q => p.1 < q.1)
theorem srt_ext : ∀ {a b : List PT}, srt a → srt b → (∀ p, p ∈ a ↔ p ∈ b) → a = b
  | [], [], _, _, _ => rfl
  | [], q :: b, _, _, h => absurd ((h q).mpr List.mem_cons_self) (by simp)
  | p :: a, [], _, _, h => absurd ((h p).mp List.mem_cons_self) (by simp)
  | p :: a, q :: b, ha, hb, h => by
    have ha' := List.pairwise_cons.mp ha
    have hb' := List.pairwise_cons.mp hb
    have hpq : p = q := by
      rcases List.mem_cons.mp ((h p).mp List.mem_cons_self) with e | e
      · exact e
      · rcases List.mem_cons.mp ((h q).mpr List.mem_cons_self) with e2 | e2
        · exact e2.symm
        · exact absurd (Int32.lt_trans (ha'.1 q e2) (hb'.1 p e)) Int32.lt_irrefl
    subst hpq
    congr 1
    refine srt_ext ha'.2 hb'.2 (fun x => ⟨fun hx => ?_, fun hx => ?_⟩)
    · rcases List.mem_cons.mp ((h x).mp (List.mem_cons_of_mem _ hx)) with e | e
      · subst e; exact absurd (ha'.1 x hx) Int32.lt_irrefl
      · exact e
    · rcases List.mem_cons.mp ((h x).mpr (List.mem_cons_of_mem _ hx)) with e | e
      · subst e; exact absurd (hb'.1 x hx) Int32.lt_irrefl
      · exact e
