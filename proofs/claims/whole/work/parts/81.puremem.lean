/-! members of the merged lists -/
theorem srt_drop {l : List PT} (h : srt l) (n : Nat) : srt (l.drop n) := List.Pairwise.sublist (List.drop_sublist n l) h
theorem lbl_dr {t : Int32} {l : List PT} (h : srt l) : ∀ q, q ∈ l.drop (lbl t l) → ¬ q.1 < t := by
  intro q hq
  cases hd : l.drop (lbl t l) with
  | nil => rw [hd] at hq; cases hq
  | cons r rs =>
    have h0 : l[lbl t l]? = some r := by
      have : (l.drop (lbl t l))[0]? = some r := by rw [hd]; rfl
      rw [List.getElem?_drop, Nat.add_zero] at this
      exact this
    have hr := lbl_ge t l r h0
    have hs := srt_drop h (lbl t l)
    rw [hd] at hq hs
    rcases List.mem_cons.mp hq with e | e
    · rw [e]; exact hr
    · exact fun d => hr (Int32.lt_trans ((List.pairwise_cons.mp hs).1 q e) d)
theorem srt_nil : srt [] := List.Pairwise.nil
theorem srt_cons {p : PT} {l : List PT} : srt (p :: l) ↔ (∀ q, q ∈ l → p.1 < q.1) ∧ srt l := List.pairwise_cons
theorem srt_app {a b : List PT} : srt (a ++ b) ↔ srt a ∧ srt b ∧ ∀ p, p ∈ a → ∀ q, q ∈ b → p.1 < q.1 := List.pairwise_append
theorem srt_take {l : List PT} (h : srt l) (n : Nat) : srt (l.take n) := List.Pairwise.sublist (List.take_sublist n l) h
theorem srt_fil {l : List PT} (h : srt l) (f : PT → Bool) : srt (l.filter f) := List.Pairwise.sublist List.filter_sublist h
theorem td_mem {l : List PT} (n : Nat) {x : PT} : x ∈ l ↔ x ∈ l.take n ∨ x ∈ l.drop n := by
  conv => lhs; rw [← List.take_append_drop n l]
  exact List.mem_append
theorem i32_ne {a b : Int32} (h : a < b) : a ≠ b := fun e => by rw [e] at h; exact Int32.lt_irrefl h
theorem i32_lln {a b c : Int32} (h : a < b) (h2 : ¬ c < b) : a < c := by rw [Int32.lt_iff_toInt_lt] at *; omega
theorem i32_gt {a b : Int32} (h : ¬ b < a) (h2 : b ≠ a) : a < b := Int32.lt_of_le_of_ne (Int32.not_lt.mp h) (Ne.symm h2)
theorem eqT0 {D : List PT} {t : Int32} (hs : srt D) (hd : ∀ q, q ∈ D → ¬ q.1 < t) : eqT D 0 t = true ↔ ∃ y, y ∈ D ∧ y.1 = t := by
  cases D with
  | nil =>
    constructor
    · intro e; cases e
    · rintro ⟨y, hy, -⟩; cases hy
  | cons r D =>
    have h1 := srt_cons.mp hs
    show decide (r.1 = t) = true ↔ _
    rw [decide_eq_true_iff]
    constructor
    · intro e; exact ⟨r, List.mem_cons_self, e⟩
    · rintro ⟨y, hy, e⟩
      rcases List.mem_cons.mp hy with f | f
      · rw [← f]; exact e
      · exact absurd (h1.1 y f) (by rw [e]; exact hd r List.mem_cons_self)
theorem mgR_mem : ∀ {ps R : List PT}, srt ps → srt R → ∀ x, x ∈ mgR ps R ↔ x ∈ R ∨ (x ∈ ps ∧ ∀ y, y ∈ R → y.1 ≠ x.1)
  | [], R, _, _, x => by simp [mgR]
  | p :: ps, R, hp, hR, x => by
    have hp' := srt_cons.mp hp
    have hD := srt_drop hR (lbl p.1 R)
    have hlow := lbl_lt p.1 R
    have hhi := lbl_dr (t := p.1) hR
    have he := eqT0 hD hhi
    have ih := mgR_mem hp'.2 hD x
    rw [mgR, List.mem_append, List.mem_append, ih]
    constructor
    · rintro (h | h | h | ⟨h, h2⟩)
      · exact Or.inl ((td_mem (lbl p.1 R)).mpr (Or.inl h))
      · by_cases c : eqT (R.drop (lbl p.1 R)) 0 p.1 = true
        · rw [if_pos c] at h; cases h
        · rw [if_neg c] at h
          have hx : x = p := List.mem_singleton.mp h
          refine Or.inr ⟨by rw [hx]; exact List.mem_cons_self, fun y hy e => ?_⟩
          rcases (td_mem (lbl p.1 R)).mp hy with h3 | h3
          · exact i32_ne (hlow y h3) (by rw [e, hx])
          · exact c (he.mpr ⟨y, h3, by rw [e, hx]⟩)
      · exact Or.inl ((td_mem (lbl p.1 R)).mpr (Or.inr h))
      · refine Or.inr ⟨List.mem_cons_of_mem _ h, fun y hy e => ?_⟩
        rcases (td_mem (lbl p.1 R)).mp hy with h3 | h3
        · exact i32_ne (Int32.lt_trans (hlow y h3) (hp'.1 x h)) e
        · exact h2 y h3 e
    · rintro (h | ⟨h, h2⟩)
      · rcases (td_mem (lbl p.1 R)).mp h with h3 | h3
        · exact Or.inl h3
        · exact Or.inr (Or.inr (Or.inl h3))
      · rcases List.mem_cons.mp h with h3 | h3
        · by_cases c : eqT (R.drop (lbl p.1 R)) 0 p.1 = true
          · obtain ⟨y, hy, e⟩ := he.mp c
            exact absurd (by rw [e, h3]) (h2 y ((td_mem (lbl p.1 R)).mpr (Or.inr hy)))
          · exact Or.inr (Or.inl (by rw [if_neg c, h3]; exact List.mem_singleton.mpr rfl))
        · exact Or.inr (Or.inr (Or.inr ⟨h3, fun y hy => h2 y ((td_mem (lbl p.1 R)).mpr (Or.inr hy))⟩))
theorem mgR_srt : ∀ {ps R : List PT}, srt ps → srt R → srt (mgR ps R)
  | [], _, _, hR => hR
  | p :: ps, R, hp, hR => by
    have hp' := srt_cons.mp hp
    have hD := srt_drop hR (lbl p.1 R)
    have hlow := lbl_lt p.1 R
    have hhi := lbl_dr (t := p.1) hR
    have he := eqT0 hD hhi
    have ih := mgR_srt hp'.2 hD
    have im := mgR_mem hp'.2 hD
    rw [mgR]
    refine srt_app.mpr ⟨srt_take hR _, srt_app.mpr ⟨?_, ih, fun a ha b hb => ?_⟩, fun a ha b hb => ?_⟩
    · split
      · exact srt_nil
      · exact srt_cons.mpr ⟨fun _ h => (by cases h), srt_nil⟩
    · by_cases c : eqT (R.drop (lbl p.1 R)) 0 p.1 = true
      · rw [if_pos c] at ha; cases ha
      · rw [if_neg c] at ha
        have hx : a = p := List.mem_singleton.mp ha
        rw [hx]
        rcases (im b).mp hb with f | ⟨f, -⟩
        · exact i32_gt (hhi b f) (fun e => c (he.mpr ⟨b, f, e⟩))
        · exact hp'.1 b f
    · have hap := hlow a ha
      rcases List.mem_append.mp hb with f | f
      · by_cases c : eqT (R.drop (lbl p.1 R)) 0 p.1 = true
        · rw [if_pos c] at f; cases f
        · rw [if_neg c] at f
          rw [List.mem_singleton.mp f]; exact hap
      · rcases (im b).mp f with f | ⟨f, -⟩
        · exact i32_lln hap (hhi b f)
        · exact Int32.lt_trans hap (hp'.1 b f)
theorem insL_mem {p : PT} : ∀ {l : List PT}, srt l → ∀ x, x ∈ insL p l ↔ x = p ∨ (x ∈ l ∧ x.1 ≠ p.1)
  | [], _, x => by simp [insL]
  | q :: l, h, x => by
    have h' := srt_cons.mp h
    rw [insL]
    by_cases c : q.1 < p.1
    · rw [if_pos c, List.mem_cons, insL_mem h'.2 x, List.mem_cons]
      constructor
      · rintro (e | e | ⟨e, e2⟩)
        · exact Or.inr ⟨Or.inl e, by rw [e]; exact i32_ne c⟩
        · exact Or.inl e
        · exact Or.inr ⟨Or.inr e, e2⟩
      · rintro (e | ⟨e | e, e2⟩)
        · exact Or.inr (Or.inl e)
        · exact Or.inl e
        · exact Or.inr (Or.inr ⟨e, e2⟩)
    · rw [if_neg c]
      by_cases d : q.1 = p.1
      · rw [if_pos d, List.mem_cons, List.mem_cons]
        constructor
        · rintro (e | e)
          · exact Or.inl e
          · exact Or.inr ⟨Or.inr e, fun z => i32_ne (h'.1 x e) (by rw [d, z])⟩
        · rintro (e | ⟨e | e, e2⟩)
          · exact Or.inl e
          · exact absurd (by rw [e]; exact d) e2
          · exact Or.inr e
      · have hlt : p.1 < q.1 := i32_gt c d
        rw [if_neg d, List.mem_cons]
        constructor
        · rintro (e | e)
          · exact Or.inl e
          · refine Or.inr ⟨e, fun z => ?_⟩
            rcases List.mem_cons.mp e with f | f
            · rw [f] at z; exact d z
            · exact i32_ne (Int32.lt_trans hlt (h'.1 x f)) z.symm
        · rintro (e | ⟨e, -⟩)
          · exact Or.inl e
          · exact Or.inr e
theorem insL_srt {p : PT} : ∀ {l : List PT}, srt l → srt (insL p l)
  | [], _ => srt_cons.mpr ⟨fun _ h => (by cases h), srt_nil⟩
  | q :: l, h => by
    have h' := srt_cons.mp h
    rw [insL]
    by_cases c : q.1 < p.1
    · rw [if_pos c]
      refine srt_cons.mpr ⟨fun y hy => ?_, insL_srt h'.2⟩
      rcases (insL_mem h'.2 y).mp hy with e | ⟨e, -⟩
      · rw [e]; exact c
      · exact h'.1 y e
    · rw [if_neg c]
      by_cases d : q.1 = p.1
      · rw [if_pos d]
        exact srt_cons.mpr ⟨fun y hy => by rw [← d]; exact h'.1 y hy, h'.2⟩
      · have hlt : p.1 < q.1 := i32_gt c d
        rw [if_neg d]
        refine srt_cons.mpr ⟨fun y hy => ?_, h⟩
        rcases List.mem_cons.mp hy with e | e
        · rw [e]; exact hlt
        · exact Int32.lt_trans hlt (h'.1 y e)
theorem insF_mem : ∀ {lt l : List PT}, srt lt → srt l → srt (lt.foldl insF l) ∧ ∀ x, x ∈ lt.foldl insF l ↔ x ∈ lt ∨ (x ∈ l ∧ ∀ y, y ∈ lt → y.1 ≠ x.1)
  | [], l, _, h => ⟨h, fun x => by simp⟩
  | p :: lt, l, h1, h => by
    have h1' := srt_cons.mp h1
    obtain ⟨i1, i2⟩ := insF_mem (lt := lt) (l := insF l p) h1'.2 (insL_srt h)
    rw [List.foldl_cons]
    refine ⟨i1, fun x => ?_⟩
    have im : x ∈ insF l p ↔ _ := insL_mem (p := p) h x
    rw [i2, im]
    constructor
    · rintro (e | ⟨e | ⟨e, e2⟩, e3⟩)
      · exact Or.inl (List.mem_cons_of_mem _ e)
      · exact Or.inl (by rw [e]; exact List.mem_cons_self)
      · refine Or.inr ⟨e, fun y hy z => ?_⟩
        rcases List.mem_cons.mp hy with f | f
        · exact e2 (by rw [← z, f])
        · exact e3 y f z
    · rintro (e | ⟨e, e3⟩)
      · rcases List.mem_cons.mp e with f | f
        · exact Or.inr ⟨Or.inl f, fun y hy z => i32_ne (h1'.1 y hy) (by rw [z, f])⟩
        · exact Or.inl f
      · exact Or.inr ⟨Or.inr ⟨e, fun z => e3 p List.mem_cons_self z.symm⟩, fun y hy => e3 y (List.mem_cons_of_mem _ hy)⟩
theorem insF_mg {pts lt : List PT} (h1 : srt pts) (h2 : srt lt) : lt.foldl insF pts = mgR pts lt :=
  srt_ext (insF_mem h2 h1).1 (mgR_srt h1 h2) (fun x => ((insF_mem h2 h1).2 x).trans (mgR_mem h1 h2 x).symm)
theorem hasT_eq (lt : List PT) (t : Int32) : hasT lt t = eqT (lt.drop (lbl t lt)) 0 t := by
  unfold hasT eqT
  rw [List.getElem?_drop, Nat.add_zero]
  cases lt[lbl t lt]? <;> rfl
theorem hasT_iff {lt : List PT} {t : Int32} (h : srt lt) : hasT lt t = true ↔ ∃ y, y ∈ lt ∧ y.1 = t := by
  rw [hasT_eq, eqT0 (srt_drop h _) (lbl_dr h)]
  constructor
  · rintro ⟨y, hy, e⟩; exact ⟨y, List.mem_of_mem_drop hy, e⟩
  · rintro ⟨y, hy, e⟩
    rcases (td_mem (lbl t lt)).mp hy with f | f
    · exact absurd e (i32_ne (lbl_lt t lt y f))
    · exact ⟨y, f, e⟩
theorem hasFT_iff {lt : List PT} {x y : Int32} (h : srt lt) : hasFT lt x y = true ↔ ∃ q, q ∈ lt ∧ ¬ q.1 < x ∧ ¬ y < q.1 := by
  unfold hasFT
  cases hg : lt[lbl x lt]? with
  | none =>
    constructor
    · intro e; cases e
    · rintro ⟨q, hq, h1, -⟩
      have hl := List.getElem?_eq_none_iff.mp hg
      rcases (td_mem (lbl x lt)).mp hq with f | f
      · exact absurd (lbl_lt x lt q f) h1
      · rw [List.drop_eq_nil_of_le hl] at f; cases f
  | some r =>
    show decide (¬ y < r.1) = true ↔ _
    rw [decide_eq_true_iff]
    constructor
    · intro e; exact ⟨r, List.mem_of_getElem? hg, lbl_ge x lt r hg, e⟩
    · rintro ⟨q, hq, h1, h2⟩
      rcases (td_mem (lbl x lt)).mp hq with f | f
      · exact absurd (lbl_lt x lt q f) h1
      · have hs := srt_drop h (lbl x lt)
        rw [drop_at hg] at f hs
        rcases List.mem_cons.mp f with e | e
        · rw [← e]; exact h2
        · exact fun z => h2 (Int32.lt_trans z ((srt_cons.mp hs).1 q e))
theorem mgR_len : ∀ {ps R : List PT}, srt ps → srt R → (mgR ps R).length + cnt (fun p => hasT R p.1) ps = R.length + ps.length
  | [], R, _, _ => by simp [mgR, cnt]
  | p :: ps, R, hp, hR => by
    have hp' := srt_cons.mp hp
    have hD := srt_drop hR (lbl p.1 R)
    have ih := mgR_len hp'.2 hD
    have hle := lbl_le p.1 R
    have hc : cnt (fun q => hasT (R.drop (lbl p.1 R)) q.1) ps = cnt (fun q => hasT R q.1) ps := by
      unfold cnt
      congr 1
      refine List.filter_congr (fun q hq => Bool.eq_iff_iff.mpr ?_)
      rw [hasT_iff hD, hasT_iff hR]
      constructor
      · rintro ⟨y, hy, e⟩; exact ⟨y, List.mem_of_mem_drop hy, e⟩
      · rintro ⟨y, hy, e⟩
        rcases (td_mem (lbl p.1 R)).mp hy with f | f
        · exact absurd e (i32_ne (Int32.lt_trans (lbl_lt p.1 R y f) (hp'.1 q hq)))
        · exact ⟨y, f, e⟩
    rw [hc] at ih
    have hcc : cnt (fun q => hasT R q.1) (p :: ps) = (if eqT (R.drop (lbl p.1 R)) 0 p.1 then 1 else 0) + cnt (fun q => hasT R q.1) ps := by
      unfold cnt
      rw [List.filter_cons, ← hasT_eq]
      by_cases c : hasT R p.1 = true
      · rw [if_pos c, if_pos c, List.length_cons]; omega
      · rw [if_neg c, if_neg c]; omega
    rw [mgR, hcc, List.length_append, List.length_append, List.length_take, List.length_cons]
    rw [List.length_drop] at ih
    by_cases c : eqT (R.drop (lbl p.1 R)) 0 p.1 = true
    · rw [if_pos c, if_pos c, List.length_nil]; omega
    · rw [if_neg c, if_neg c, List.length_singleton]; omega
