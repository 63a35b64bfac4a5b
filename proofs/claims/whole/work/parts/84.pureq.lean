/-! sums by heads are sums by points -/
theorem qpt_1 (p : PT) : qadd q0 (ptQ p) = ptQ p := qadd_z _
theorem hdQ_pts : ∀ (n : Nat) (l : List PT), l.length = n → l ≠ [] → (l.length, tot l, some (low l), some (high l)) = qfold ptQ q0 l
  | 0, l, hl, h => absurd (List.length_eq_zero_iff.mp hl) h
  | n + 1, l, hl, h => by
    rcases nil_snoc l with e | ⟨r, p, e⟩
    · exact absurd e h
    · subst e
      rw [qfold_snoc]
      by_cases c : r = []
      · subst c
        rw [List.nil_append]
        show (1, (0 : Int64) + p.2, some p.2, some p.2) = qadd q0 (ptQ p)
        rw [qpt_1, Int64.zero_add]; rfl
      · have hr : r.length = n := by
          rw [List.length_append, List.length_singleton] at hl; omega
        rw [← hdQ_pts n r hr c, tot_snoc, low_snoc p c, high_snoc p c, List.length_append]
        rfl
theorem qfold_mpts : ∀ {bk : List BLK}, neB bk → ∀ u, qfold hdQ u bk = qfold ptQ u (mpts bk)
  | [], _, _ => rfl
  | x :: bk, h, u => by
    rw [mpts_cons, qfold_app]
    show qfold hdQ (qadd u (hdQ x)) bk = _
    rw [qfold_mpts (fun y hy => h y (List.mem_cons_of_mem _ hy))]
    congr 1
    rw [qfold_q ptQ x.1 u]
    congr 1
    exact hdQ_pts x.1.length x.1 rfl (h x List.mem_cons_self)
theorem qadd_lc (u v w : QV) : qadd u (qadd v w) = qadd v (qadd u w) := by rw [← qadd_a, qadd_c u v, qadd_a]
theorem qfold_split (f : PT → Bool) : ∀ (l : List PT), qfold ptQ q0 l = qadd (qfold ptQ q0 (l.filter f)) (qfold ptQ q0 (l.filter (fun p => !f p)))
  | [] => (qadd_z _).symm
  | p :: l => by
    have e : ∀ (m : List PT), qfold ptQ q0 (p :: m) = qadd (ptQ p) (qfold ptQ q0 m) := fun m => by
      show qfold ptQ (qadd q0 (ptQ p)) m = _
      rw [qpt_1, qfold_q]
    rw [e, qfold_split f l, List.filter_cons, List.filter_cons]
    by_cases c : f p = true
    · rw [if_pos c, if_neg (by simp [c]), e, qadd_a]
    · rw [if_neg c, if_pos (by simp [c]), e, qadd_lc]
theorem told_iff {a b : Int32} {lt : List PT} {x : BLK} : told a b lt x = true ↔ tch a b x = true ∧ tornB x = false ∧ wth a b x = true ∧ hasFT lt (fst1 x.1) (eT (enc x.1)) = false := by
  unfold told
  rw [Bool.and_eq_true, Bool.and_eq_true, Bool.and_eq_true, Bool.not_eq_true', Bool.not_eq_true']
theorem unp_iff {a b : Int32} {lt : List PT} {x : BLK} : unp a b lt x = true ↔ tch a b x = true ∧ tornB x = false ∧ ¬ (wth a b x = true ∧ hasFT lt (fst1 x.1) (eT (enc x.1)) = false) := by
  unfold unp
  generalize tch a b x = A
  generalize tornB x = B
  generalize wth a b x = C
  generalize hasFT lt (fst1 x.1) (eT (enc x.1)) = D
  revert A B C D
  decide
theorem wth_iff {a b : Int32} {x : BLK} : wth a b x = true ↔ ¬ fst1 x.1 < a ∧ eT (enc x.1) < b := by
  unfold wth
  rw [Bool.and_eq_true, decide_eq_true_iff, decide_eq_true_iff]
theorem told_late {a b : Int32} {lt : List PT} {x : BLK} (h2 : srt lt) (hx : srt x.1) (ht : told a b lt x = true) {p y : PT} (hp : p ∈ x.1) (hy : y ∈ lt) : y.1 ≠ p.1 := fun e => by
  obtain ⟨-, -, -, t4⟩ := told_iff.mp ht
  obtain ⟨b1, b2⟩ := blk_bd hx hp
  have : hasFT lt (fst1 x.1) (eT (enc x.1)) = true := (hasFT_iff h2).mpr ⟨y, hy, by rw [e]; exact b1, by rw [e]; exact b2⟩
  rw [t4] at this; cases this
theorem ask_eq {S : SER} (h0 : neB S.2.2.2.1) (h1 : srt (mpts S.2.2.2.1)) (h2 : srt S.2.2.2.2) (a b : Int32) (u : QV) : askC S a b u = qadd u (askM S a b q0) := by
  obtain ⟨kd, lab, sp, bk, lt⟩ := S
  show qfold ptQ (qfold hdQ (qfold (spQ a b) u sp) (bk.filter (told a b lt))) (gth lt a b (mpts (bk.filter (unp a b lt)))) = qadd u (qfold ptQ (qfold (spQ a b) q0 sp) ((takA lt (mpts (unt bk))).filter (wn a b)))
  have h0 : neB bk := h0
  have h1 : srt (mpts bk) := h1
  have h2 : srt lt := h2
  have hu : srt (mpts (unt bk)) := mpts_srt _ h1
  have ht : srt (mpts (bk.filter (told a b lt))) := mpts_srt _ h1
  have hn : srt (mpts (bk.filter (unp a b lt))) := mpts_srt _ h1
  rw [takA_mg, gth_eq a b hn h2, qfold_mpts (fun x hx => h0 x (List.mem_filter.mp hx).1)]
  rw [qfold_q ptQ ((mgR (mpts (bk.filter (unp a b lt))) lt).filter (wn a b)), qfold_q ptQ (mpts (bk.filter (told a b lt))), qfold_q (spQ a b) sp u, qfold_q ptQ ((mgR (mpts (unt bk)) lt).filter (wn a b)) (qfold (spQ a b) q0 sp), qadd_a, qadd_a]
  congr 2
  rw [qfold_split (fun p => decide (p ∈ mpts (bk.filter (told a b lt)))) ((mgR (mpts (unt bk)) lt).filter (wn a b))]
  have tin : ∀ p, p ∈ mpts (bk.filter (told a b lt)) → ∃ x, x ∈ bk ∧ told a b lt x = true ∧ p ∈ x.1 := fun p hp => by
    obtain ⟨x, hx, hp⟩ := mpts_mem.mp hp
    exact ⟨x, (List.mem_filter.mp hx).1, (List.mem_filter.mp hx).2, hp⟩
  congr 1
  · congr 1
    refine srt_ext ht (srt_fil (srt_fil (mgR_srt hu h2) _) _) (fun p => ?_)
    rw [List.mem_filter, List.mem_filter, mgR_mem hu h2, decide_eq_true_iff]
    constructor
    · intro hp
      obtain ⟨x, hx, htx, hpx⟩ := tin p hp
      obtain ⟨-, t2, t3, -⟩ := told_iff.mp htx
      have hsx := blk_srt h1 hx
      obtain ⟨b1, b2⟩ := blk_bd hsx hpx
      obtain ⟨w1, w2⟩ := wth_iff.mp t3
      refine ⟨⟨Or.inr ⟨mpts_mem.mpr ⟨x, unt_mem.mpr ⟨hx, t2⟩, hpx⟩, fun y hy => told_late h2 hsx htx hpx hy⟩, wn_iff.mpr ⟨i32_nnn w1 b1, i32_nln b2 w2⟩⟩, hp⟩
    · exact fun h => h.2
  · congr 1
    refine srt_ext (srt_fil (mgR_srt hn h2) _) (srt_fil (srt_fil (mgR_srt hu h2) _) _) (fun p => ?_)
    rw [List.mem_filter, List.mem_filter, List.mem_filter, mgR_mem hn h2, mgR_mem hu h2, Bool.not_eq_true', decide_eq_false_iff_not]
    constructor
    · rintro ⟨h | ⟨h, h5⟩, h6⟩
      · refine ⟨⟨Or.inl h, h6⟩, fun hp => ?_⟩
        obtain ⟨x, hx, htx, hpx⟩ := tin p hp
        exact told_late h2 (blk_srt h1 hx) htx hpx h rfl
      · obtain ⟨x, hx, hpx⟩ := mpts_mem.mp h
        obtain ⟨hx, hux⟩ := List.mem_filter.mp hx
        obtain ⟨u1, u2, u3⟩ := unp_iff.mp hux
        refine ⟨⟨Or.inr ⟨mpts_mem.mpr ⟨x, unt_mem.mpr ⟨hx, u2⟩, hpx⟩, h5⟩, h6⟩, fun hp => ?_⟩
        obtain ⟨y, hy, hty, hpy⟩ := tin p hp
        have e := blk_uni h1 hx hy hpx hpy
        obtain ⟨-, -, t3, t4⟩ := told_iff.mp hty
        rw [← e] at t3 t4
        exact u3 ⟨t3, t4⟩
    · rintro ⟨⟨h | ⟨h, h5⟩, h6⟩, h7⟩
      · exact ⟨Or.inl h, h6⟩
      · obtain ⟨x, hx, hpx⟩ := mpts_mem.mp h
        obtain ⟨hx, t2⟩ := unt_mem.mp hx
        have htc : tch a b x = true := pt_tch (f := x.2) (blk_srt h1 hx) hpx h6
        refine ⟨Or.inr ⟨mpts_mem.mpr ⟨x, List.mem_filter.mpr ⟨hx, unp_iff.mpr ⟨htc, t2, fun ⟨t3, t4⟩ => h7 (mpts_mem.mpr ⟨x, List.mem_filter.mpr ⟨hx, told_iff.mpr ⟨htc, t2, t3, t4⟩⟩, hpx⟩)⟩⟩, hpx⟩, h5⟩, h6⟩
