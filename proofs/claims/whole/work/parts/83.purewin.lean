/-! windows of the merged list -/
theorem wn_iff {x y : Int32} {p : PT} : wn x y p = true ↔ ¬ p.1 < x ∧ p.1 < y := by
  unfold wn
  rw [Bool.and_eq_true, decide_eq_true_iff, decide_eq_true_iff]
theorem gm_lt {lt : List PT} {y : Int32} : ∀ (ps acc : List PT) (j : Nat), (∀ p, p ∈ ps → p.1 < y) → (∀ a, a ∈ acc → a.1 < y) → ∀ a, a ∈ (ps.foldl (gm lt) (acc, j)).1 → a.1 < y
  | [], acc, j, _, h => h
  | p :: ps, acc, j, hp, h => by
    rw [List.foldl_cons]
    have e1 : gm lt (acc, j) p = if eqT lt (j + lbl p.1 (lt.drop j)) p.1 then (acc ++ (lt.drop j).take (lbl p.1 (lt.drop j)), j + lbl p.1 (lt.drop j)) else (acc ++ (lt.drop j).take (lbl p.1 (lt.drop j)) ++ [p], j + lbl p.1 (lt.drop j)) := rfl
    have ha : ∀ a, a ∈ acc ++ (lt.drop j).take (lbl p.1 (lt.drop j)) → a.1 < y := fun a ha => by
      rcases List.mem_append.mp ha with f | f
      · exact h a f
      · exact Int32.lt_trans (lbl_lt p.1 _ a f) (hp p List.mem_cons_self)
    rw [e1]
    by_cases c : eqT lt (j + lbl p.1 (lt.drop j)) p.1 = true
    · rw [if_pos c]
      exact gm_lt ps _ _ (fun q hq => hp q (List.mem_cons_of_mem _ hq)) ha
    · rw [if_neg c]
      refine gm_lt ps _ _ (fun q hq => hp q (List.mem_cons_of_mem _ hq)) (fun a h2 => ?_)
      rcases List.mem_append.mp h2 with f | f
      · exact ha a f
      · rw [List.mem_singleton.mp f]; exact hp p List.mem_cons_self
theorem fil_lbl {y : Int32} : ∀ {D : List PT}, srt D → D.filter (fun p => decide (p.1 < y)) = D.take (lbl y D)
  | [], _ => rfl
  | p :: D, h => by
    have h' := srt_cons.mp h
    rw [List.filter_cons, lbl]
    by_cases c : p.1 < y
    · rw [if_pos (decide_eq_true c), if_pos c, List.take_succ_cons, fil_lbl h'.2]
    · rw [if_neg (fun e => c (of_decide_eq_true e)), if_neg c, List.take_zero, List.filter_eq_nil_iff]
      intro q hq e
      exact c (Int32.lt_trans (h'.1 q hq) (of_decide_eq_true e))
theorem drop_iff {lt : List PT} {x : Int32} {p : PT} (h : srt lt) : p ∈ lt.drop (lbl x lt) ↔ p ∈ lt ∧ ¬ p.1 < x := by
  constructor
  · intro hp; exact ⟨List.mem_of_mem_drop hp, lbl_dr h p hp⟩
  · rintro ⟨hp, hx⟩
    rcases (td_mem (lbl x lt)).mp hp with f | f
    · exact absurd (lbl_lt x lt p f) hx
    · exact f
theorem gth_eq {lt pts : List PT} (x y : Int32) (h1 : srt pts) (h2 : srt lt) : gth lt x y pts = (mgR pts lt).filter (wn x y) := by
  have hf := srt_fil h1 (wn x y)
  have hD := srt_drop h2 (lbl x lt)
  have hg := gms_mg lt (pts.filter (wn x y)) [] (lbl x lt)
  rw [List.nil_append] at hg
  have hacc := gm_lt (lt := lt) (y := y) (pts.filter (wn x y)) [] (lbl x lt) (fun p hp => (wn_iff.mp (List.mem_filter.mp hp).2).2) (fun a h => by cases h)
  have e0 : gth lt x y pts = ((pts.filter (wn x y)).foldl (gm lt) ([], lbl x lt)).1 ++ (lt.drop ((pts.filter (wn x y)).foldl (gm lt) ([], lbl x lt)).2).take (lbl y (lt.drop ((pts.filter (wn x y)).foldl (gm lt) ([], lbl x lt)).2)) := rfl
  have e1 : gth lt x y pts = (mgR (pts.filter (wn x y)) (lt.drop (lbl x lt))).filter (fun p => decide (p.1 < y)) := by
    rw [e0, ← hg, List.filter_append, fil_lbl (srt_drop h2 _)]
    congr 1
    exact (List.filter_eq_self.mpr (fun a ha => decide_eq_true (hacc a ha))).symm
  rw [e1]
  refine srt_ext (srt_fil (mgR_srt hf hD) _) (srt_fil (mgR_srt h1 h2) _) (fun p => ?_)
  rw [List.mem_filter, List.mem_filter, mgR_mem hf hD, mgR_mem h1 h2, List.mem_filter, wn_iff, decide_eq_true_iff]
  constructor
  · rintro ⟨h | ⟨⟨h, h3, h4⟩, h5⟩, h6⟩
    · exact ⟨Or.inl ((drop_iff h2).mp h).1, ((drop_iff h2).mp h).2, h6⟩
    · exact ⟨Or.inr ⟨h, fun z hz e => h5 z ((drop_iff h2).mpr ⟨hz, by rw [e]; exact h3⟩) e⟩, h3, h6⟩
  · rintro ⟨h | ⟨h, h5⟩, h3, h6⟩
    · exact ⟨Or.inl ((drop_iff h2).mpr ⟨h, h3⟩), h6⟩
    · exact ⟨Or.inr ⟨⟨h, h3, h6⟩, fun z hz => h5 z ((drop_iff h2).mp hz).1⟩, h6⟩
theorem mpts_mem {bk : List BLK} {p : PT} : p ∈ mpts bk ↔ ∃ x, x ∈ bk ∧ p ∈ x.1 := by
  unfold mpts
  rw [List.mem_flatten]
  constructor
  · rintro ⟨l, hl, hp⟩
    obtain ⟨x, hx, e⟩ := List.mem_map.mp hl
    exact ⟨x, hx, by rw [e]; exact hp⟩
  · rintro ⟨x, hx, hp⟩
    exact ⟨x.1, List.mem_map.mpr ⟨x, hx, rfl⟩, hp⟩
theorem mpts_cons (x : BLK) (bk : List BLK) : mpts (x :: bk) = x.1 ++ mpts bk := by unfold mpts; simp
theorem mpts_srt (f : BLK → Bool) : ∀ {bk : List BLK}, srt (mpts bk) → srt (mpts (bk.filter f))
  | [], h => h
  | x :: bk, h => by
    rw [mpts_cons] at h
    have h' := srt_app.mp h
    have ih := mpts_srt f h'.2.1
    rw [List.filter_cons]
    by_cases c : f x = true
    · rw [if_pos c, mpts_cons]
      refine srt_app.mpr ⟨h'.1, ih, fun p hp q hq => h'.2.2 p hp q ?_⟩
      obtain ⟨z, hz, hq⟩ := mpts_mem.mp hq
      exact mpts_mem.mpr ⟨z, (List.mem_filter.mp hz).1, hq⟩
    · rw [if_neg c]; exact ih
theorem blk_uni : ∀ {bk : List BLK} {x y : BLK} {p : PT}, srt (mpts bk) → x ∈ bk → y ∈ bk → p ∈ x.1 → p ∈ y.1 → x = y
  | [], _, _, _, _, hx, _, _, _ => by cases hx
  | z :: bk, x, y, p, h, hx, hy, h1, h2 => by
    rw [mpts_cons] at h
    have h' := srt_app.mp h
    rcases List.mem_cons.mp hx with e1 | e1 <;> rcases List.mem_cons.mp hy with e2 | e2
    · rw [e1, e2]
    · exact absurd (h'.2.2 p (by rw [← e1]; exact h1) p (mpts_mem.mpr ⟨y, e2, h2⟩)) Int32.lt_irrefl
    · exact absurd (h'.2.2 p (by rw [← e2]; exact h2) p (mpts_mem.mpr ⟨x, e1, h1⟩)) Int32.lt_irrefl
    · exact blk_uni h'.2.1 e1 e2 h1 h2
theorem blk_srt : ∀ {bk : List BLK} {x : BLK}, srt (mpts bk) → x ∈ bk → srt x.1
  | [], _, _, hx => by cases hx
  | z :: bk, x, h, hx => by
    rw [mpts_cons] at h
    have h' := srt_app.mp h
    rcases List.mem_cons.mp hx with e | e
    · rw [e]; exact h'.1
    · exact blk_srt h'.2.1 e
theorem blk_bd {l : List PT} {p : PT} (h : srt l) (hp : p ∈ l) : ¬ p.1 < fst1 l ∧ ¬ eT (enc l) < p.1 := by
  have hn : l ≠ [] := fun e => by rw [e] at hp; cases hp
  obtain ⟨f, f1, f2⟩ := first_T hn
  obtain ⟨z, z1, z2⟩ := last_T hn
  rw [f2, z2]
  refine ⟨?_, ?_⟩
  · cases l with
    | nil => cases hp
    | cons r l =>
      have e : r = f := by
        have : (r :: l)[0]? = some r := rfl
        rw [this] at f1; exact Option.some.inj f1
      rw [← e]
      rcases List.mem_cons.mp hp with g | g
      · rw [g]; exact Int32.lt_irrefl
      · exact fun d => Int32.lt_irrefl (Int32.lt_trans d ((srt_cons.mp h).1 p g))
  · rcases nil_snoc l with e | ⟨r, y, e⟩
    · exact absurd e hn
    · subst e
      have hz : y = z := by
        rw [List.length_append, List.getElem?_append_right (by simp)] at z1
        simpa using z1
      rw [← hz]
      rcases List.mem_append.mp hp with g | g
      · exact fun d => Int32.lt_irrefl (Int32.lt_trans d ((srt_app.mp h).2.2 p g y List.mem_cons_self))
      · rw [List.mem_singleton.mp g]; exact Int32.lt_irrefl
theorem i32_nln {a b c : Int32} (h : ¬ b < a) (h2 : b < c) : a < c := by rw [Int32.lt_iff_toInt_lt] at *; omega
theorem i32_nnn {a b c : Int32} (h : ¬ b < a) (h2 : ¬ c < b) : ¬ c < a := by rw [Int32.lt_iff_toInt_lt] at *; omega
/-- a block that has a point in the window touches it -/
theorem pt_tch {l : List PT} {f : Nat → Int32} {a b : Int32} {p : PT} (h : srt l) (hp : p ∈ l) (hw : wn a b p = true) : tch a b (l, f) = true := by
  obtain ⟨b1, b2⟩ := blk_bd h hp
  obtain ⟨w1, w2⟩ := wn_iff.mp hw
  unfold tch
  rw [Bool.and_eq_true, decide_eq_true_iff, decide_eq_true_iff]
  exact ⟨i32_nln b1 w2, i32_nnn w1 b2⟩
theorem unt_mem {bk : List BLK} {x : BLK} : x ∈ unt bk ↔ x ∈ bk ∧ tornB x = false := by
  unfold unt
  rw [List.mem_filter, Bool.not_eq_true']
/-- blocks beside the window don't count -/
theorem win_eq {bk : List BLK} {lt : List PT} (a b : Int32) (h1 : srt (mpts bk)) (h2 : srt lt) : gth lt a b (mpts (bk.filter (unr a b))) = (mgR (mpts (unt bk)) lt).filter (wn a b) := by
  rw [gth_eq a b (mpts_srt _ h1) h2]
  refine srt_ext (srt_fil (mgR_srt (mpts_srt _ h1) h2) _) (srt_fil (mgR_srt (mpts_srt _ h1) h2) _) (fun p => ?_)
  have hu : srt (mpts (unt bk)) := mpts_srt _ h1
  rw [List.mem_filter, List.mem_filter, mgR_mem (mpts_srt _ h1) h2, mgR_mem hu h2]
  constructor
  · rintro ⟨h | ⟨h, h5⟩, h6⟩
    · exact ⟨Or.inl h, h6⟩
    · obtain ⟨x, hx, hp⟩ := mpts_mem.mp h
      have hx' := List.mem_filter.mp hx
      have hun : tornB x = false := by
        have := hx'.2
        unfold unr at this
        rw [Bool.and_eq_true, Bool.not_eq_true'] at this
        exact this.1
      exact ⟨Or.inr ⟨mpts_mem.mpr ⟨x, unt_mem.mpr ⟨hx'.1, hun⟩, hp⟩, h5⟩, h6⟩
  · rintro ⟨h | ⟨h, h5⟩, h6⟩
    · exact ⟨Or.inl h, h6⟩
    · obtain ⟨x, hx, hp⟩ := mpts_mem.mp h
      have hx' := unt_mem.mp hx
      refine ⟨Or.inr ⟨mpts_mem.mpr ⟨x, List.mem_filter.mpr ⟨hx'.1, ?_⟩, hp⟩, h5⟩, h6⟩
      unfold unr
      rw [Bool.and_eq_true, Bool.not_eq_true']
      exact ⟨hx'.2, pt_tch (f := x.2) (blk_srt h1 hx'.1) hp h6⟩
