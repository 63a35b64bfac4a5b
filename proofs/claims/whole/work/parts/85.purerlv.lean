/-! rise, level, value over the window -/
def vOK (v : Int64) : Prop := -1000000000000 ≤ v.toInt ∧ v.toInt ≤ 1000000000000
theorem vOK_no {v : Int64} (h : vOK v) : v ≠ NOv := fun e => by
  rw [e] at h
  exact absurd h.1 (by decide)
theorem vOK_sub {p q : Int64} (hp : vOK p) (hq : vOK q) : (q - p < 0) = (q < p) := by
  unfold vOK at hp hq
  rw [Int64.lt_iff_toInt_lt, Int64.lt_iff_toInt_lt, Int64.toInt_sub, Int.bmod_eq_of_le (by omega) (by omega), show (0 : Int64).toInt = 0 from rfl]
  apply propext
  constructor <;> intro h <;> omega
theorem fil_none {l : List PT} {a b : Int32} (h : ∀ q, q ∈ l → ¬ q.1 < b) : l.filter (wn a b) = [] := by
  rw [List.filter_eq_nil_iff]
  intro q hq e
  exact h q hq (wn_iff.mp e).2
theorem wn_cons {a b : Int32} {q : PT} {l : List PT} : (q :: l).filter (wn a b) = if ¬ q.1 < a ∧ q.1 < b then q :: l.filter (wn a b) else l.filter (wn a b) := by
  rw [List.filter_cons]
  by_cases c : ¬ q.1 < a ∧ q.1 < b
  · rw [if_pos c, if_pos (wn_iff.mpr c)]
  · rw [if_neg c, if_neg (fun e => c (wn_iff.mp e))]
theorem rsw_eq {a b : Int32} : ∀ (l : List PT) (p : PT), srt (p :: l) → (∀ q, q ∈ p :: l → vOK q.2) → rsw a b p l = if ¬ p.1 < a then (if p.1 < b then rsL p (l.filter (wn a b)) else 0) else rsN (l.filter (wn a b))
  | [], p, _, _ => by
    show (0 : Int64) = _
    by_cases c : ¬ p.1 < a
    · rw [if_pos c]
      by_cases d : p.1 < b
      · rw [if_pos d]; rfl
      · rw [if_neg d]
    · rw [if_neg c]; rfl
  | q :: l, p, h, hv => by
    have h' := srt_cons.mp h
    have hq := srt_cons.mp h'.2
    have hpq := h'.1 q List.mem_cons_self
    have ih := rsw_eq l q h'.2 (fun r hr => hv r (List.mem_cons_of_mem _ hr)) (a := a) (b := b)
    rw [rsw, ih, wn_cons]
    by_cases c : p.1 < a
    · rw [if_neg (fun z => z.1 c), Int64.zero_add, if_neg (show ¬ ¬ p.1 < a from fun z => z c)]
      by_cases c2 : q.1 < a
      · rw [if_neg (fun z => z c2), if_neg (fun z => z.1 c2)]
      · rw [if_pos c2]
        by_cases d : q.1 < b
        · rw [if_pos d, if_pos ⟨c2, d⟩]; rfl
        · rw [if_neg d, if_neg (fun z => d z.2), fil_none (fun r hr z => d (Int32.lt_trans (hq.1 r hr) z))]; rfl
    · have c2 : ¬ q.1 < a := fun z => c (Int32.lt_trans hpq z)
      rw [if_pos c, if_pos c2]
      by_cases d : q.1 < b
      · have hA : ¬ p.1 < a ∧ q.1 < b := ⟨c, d⟩
        have hB : ¬ q.1 < a ∧ q.1 < b := ⟨c2, d⟩
        have hC : p.1 < b := Int32.lt_trans hpq d
        rw [if_pos hA, if_pos d, if_pos hC, if_pos hB, rsL]
        congr 1
        have e := vOK_sub (hv p List.mem_cons_self) (hv q (List.mem_cons_of_mem _ List.mem_cons_self))
        by_cases z : q.2 < p.2
        · rw [if_pos z, if_pos (by rw [e]; exact z)]
        · rw [if_neg z, if_neg (by rw [e]; exact z)]
      · have hA : ¬ (¬ p.1 < a ∧ q.1 < b) := fun z => d z.2
        have hB : ¬ (¬ q.1 < a ∧ q.1 < b) := fun z => d z.2
        rw [if_neg hA, if_neg d, if_neg hB, fil_none (fun r hr z => d (Int32.lt_trans (hq.1 r hr) z)), Int64.zero_add]
        split <;> rfl
theorem rsW_eq {a b : Int32} {l : List PT} (h : srt l) (hv : ∀ q, q ∈ l → vOK q.2) : rsW a b l = rsN (l.filter (wn a b)) := by
  cases l with
  | nil => rfl
  | cons p l =>
    show rsw a b p l = _
    rw [rsw_eq l p h hv, wn_cons]
    by_cases c : p.1 < a
    · rw [if_neg (fun z => z c), if_neg (fun z => z.1 c)]
    · rw [if_pos c]
      by_cases d : p.1 < b
      · rw [if_pos d, if_pos ⟨c, d⟩]; rfl
      · rw [if_neg d, if_neg (fun z => d z.2), fil_none (fun r hr z => d (Int32.lt_trans ((srt_cons.mp h).1 r hr) z))]; rfl
theorem lvT_0 {v : Int64} {a b : Int32} {p : PT} {e : Int32} (hp : ¬ p.1 < b) (he : ¬ b < e) : lvT v a p e = 0 := by
  unfold lvT
  rw [if_neg]
  rintro ⟨-, h⟩
  by_cases c : a < p.1
  · rw [if_pos c] at h
    rw [Int32.lt_iff_toInt_lt] at *; omega
  · rw [if_neg c] at h
    rw [Int32.lt_iff_toInt_lt] at *; omega
theorem lvE_le (b : Int32) (l : List PT) : ¬ b < lvE b l := by
  cases l with
  | nil => exact Int32.lt_irrefl
  | cons q l =>
    show ¬ b < if q.1 < b then q.1 else b
    split
    · rename_i h
      exact fun z => Int32.lt_irrefl (Int32.lt_trans z h)
    · exact Int32.lt_irrefl
theorem lvW_0 {v : Int64} {a b : Int32} : ∀ {l : List PT}, (∀ q, q ∈ l → ¬ q.1 < b) → lvW v a b l = 0
  | [], _ => rfl
  | p :: l, h => by
    rw [lvW, lvW_0 (fun q hq => h q (List.mem_cons_of_mem _ hq)), lvT_0 (h p List.mem_cons_self) (lvE_le b l)]; rfl
theorem lvT_eq {v : Int64} {a : Int32} {p : PT} {e : Int32} (hp : ¬ p.1 < 0) : lvT v a p e = tmT v a p e := by
  unfold lvT tmT
  have hm : (if a < p.1 then p.1 else a) = if p.1 < a then a else p.1 := by
    by_cases c : a < p.1
    · rw [if_pos c, if_neg (fun z => Int32.lt_irrefl (Int32.lt_trans c z))]
    · rw [if_neg c]
      by_cases d : p.1 < a
      · rw [if_pos d]
      · rw [if_neg d]; exact Int32.le_antisymm (Int32.not_lt.mp d) (Int32.not_lt.mp c)
  rw [hm]
  have hB : 0 ≤ (if p.1 < a then a else p.1).toInt := by
    rw [Int32.lt_iff_toInt_lt, show (0 : Int32).toInt = 0 from rfl] at hp
    split
    · rename_i h
      rw [Int32.lt_iff_toInt_lt] at h; omega
    · omega
  generalize (if p.1 < a then a else p.1) = B at *
  by_cases c : p.2 = v ∧ B < e
  · have c' : p.2 = v ∧ B.toInt64 < e.toInt64 := ⟨c.1, by rw [l_lt B e]; exact c.2⟩
    rw [if_pos c, if_pos c']
    have h2 := c.2
    rw [Int32.lt_iff_toInt_lt] at h2
    have h3 := e.toInt_lt
    exact (l_sub (by omega) (by omega)).symm
  · have c' : ¬ (p.2 = v ∧ B.toInt64 < e.toInt64) := fun z => c ⟨z.1, by rw [← l_lt B e]; exact z.2⟩
    rw [if_neg c, if_neg c']
theorem lvW_eq {v : Int64} {a b : Int32} : ∀ {l : List PT}, srt l → (∀ q, q ∈ l → ¬ q.1 < 0) → lvW v a b l = tmA v a b (l.filter (wn 0 b))
  | [], _, _ => rfl
  | p :: l, h, h0 => by
    have h' := srt_cons.mp h
    have hp := h0 p List.mem_cons_self
    rw [wn_cons]
    by_cases d : p.1 < b
    · rw [if_pos ⟨hp, d⟩, lvW, tmA, lvW_eq h'.2 (fun q hq => h0 q (List.mem_cons_of_mem _ hq)), lvT_eq hp]
      congr 2
      cases l with
      | nil => rfl
      | cons q l =>
        rw [wn_cons]
        have hq0 := h0 q (List.mem_cons_of_mem _ List.mem_cons_self)
        show (if q.1 < b then q.1 else b) = _
        by_cases c : q.1 < b
        · rw [if_pos c, if_pos ⟨hq0, c⟩]
          show q.1 = if b < q.1 then b else q.1
          rw [if_neg (fun z => Int32.lt_irrefl (Int32.lt_trans z c))]
        · rw [if_neg c, if_neg (fun z => c z.2), fil_none (fun r hr z => c (Int32.lt_trans ((srt_cons.mp h'.2).1 r hr) z))]; rfl
    · rw [if_neg (fun z => d z.2), fil_none (fun r hr z => d (Int32.lt_trans (h'.1 r hr) z))]
      exact lvW_0 (fun q hq => by
        rcases List.mem_cons.mp hq with e | e
        · rw [e]; exact d
        · exact fun z => d (Int32.lt_trans (h'.1 q e) z))
theorem vlW_f {a b : Int32} : ∀ (l : List PT) (is : Int64), (∀ q, q ∈ l → q.2 ≠ NOv) → vlW a b 0 l is = if is = NOv then valF (l.filter (wn a b)) 0 else is
  | [], is, _ => by
    show is = _
    by_cases c : is = NOv
    · rw [if_pos c, c]; rfl
    · rw [if_neg c]
  | p :: l, is, h => by
    have hn := h p List.mem_cons_self
    rw [vlW, vlW_f l _ (fun q hq => h q (List.mem_cons_of_mem _ hq)), wn_cons]
    by_cases c : is = NOv
    · by_cases d : ¬ p.1 < a ∧ p.1 < b
      · have hA : (¬ p.1 < a ∧ p.1 < b) ∧ (¬ (0 : Int32) = 0 ∨ is = NOv) := ⟨d, Or.inr c⟩
        rw [if_pos hA, if_neg hn, if_pos d, if_pos c]; rfl
      · have hA : ¬ ((¬ p.1 < a ∧ p.1 < b) ∧ (¬ (0 : Int32) = 0 ∨ is = NOv)) := fun z => d z.1
        rw [if_neg hA, if_pos c, if_neg d, if_pos c]
    · have hA : ¬ ((¬ p.1 < a ∧ p.1 < b) ∧ (¬ (0 : Int32) = 0 ∨ is = NOv)) := fun z => z.2.elim (fun y => y rfl) c
      rw [if_neg hA, if_neg c, if_neg c]
theorem vlW_l {a b ms : Int32} (hm : ¬ ms = 0) : ∀ (l : List PT) (is : Int64), vlW a b ms l is = match (l.filter (wn a b)).getLast? with
    | none => is
    | some p => p.2
  | [], is => rfl
  | p :: l, is => by
    rw [vlW, vlW_l hm l, wn_cons]
    by_cases d : ¬ p.1 < a ∧ p.1 < b
    · rw [if_pos ⟨d, Or.inl hm⟩, if_pos d, List.getLast?_cons]
      cases (l.filter (wn a b)).getLast? with
      | none => rfl
      | some r => rfl
    · rw [if_neg (fun z => d z.1), if_neg d]
theorem vlW_eq {a b ms : Int32} {l : List PT} (h : ∀ q, q ∈ l → q.2 ≠ NOv) : vlW a b ms l NOv = valF (l.filter (wn a b)) ms := by
  by_cases c : ms = 0
  · rw [c, vlW_f l NOv h, if_pos rfl]
  · rw [vlW_l c]
    unfold valF
    rw [if_neg c]
    cases (l.filter (wn a b)).getLast? <;> rfl
