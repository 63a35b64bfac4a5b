/-! dropping is filtering where ends rise -/
theorem fil_S (t : Int32) : ∀ {l : List SPN}, l.Pairwise (fun x y => x.2.1 < y.2.1) → l.filter (kpS t) = l.drop (dpS t l)
  | [], _ => rfl
  | x :: l, h => by
    have h' := List.pairwise_cons.mp h
    rw [dpS]
    by_cases c : t < x.2.1
    · rw [if_pos c, List.drop_zero, List.filter_eq_self]
      intro y hy
      unfold kpS
      rcases List.mem_cons.mp hy with e | e
      · rw [e]; exact decide_eq_true c
      · exact decide_eq_true (Int32.lt_trans c (h'.1 y e))
    · rw [if_neg c, List.drop_succ_cons, List.filter_cons, if_neg (by unfold kpS; simp [c]), fil_S t h'.2]
theorem fil_B (t : Int32) : ∀ {l : List BLK}, l.Pairwise (fun x y => eT (enc x.1) < eT (enc y.1)) → l.filter (kpB t) = l.drop (dpB t l)
  | [], _ => rfl
  | x :: l, h => by
    have h' := List.pairwise_cons.mp h
    rw [dpB]
    by_cases c : eT (enc x.1) < t
    · rw [if_pos c, List.drop_succ_cons, List.filter_cons, if_neg (by unfold kpB; simp [c]), fil_B t h'.2]
    · rw [if_neg c, List.drop_zero, List.filter_eq_self]
      intro y hy
      unfold kpB
      rcases List.mem_cons.mp hy with e | e
      · rw [e]; exact decide_eq_true c
      · exact decide_eq_true (fun d => c (Int32.lt_trans (h'.1 y e) d))
/-- last times of blocks rise -/
theorem lst_B : ∀ {bk : List BLK}, srt (mpts bk) → neB bk → bk.Pairwise (fun x y => eT (enc x.1) < eT (enc y.1))
  | [], _, _ => List.Pairwise.nil
  | x :: bk, h, hn => by
    have e : mpts (x :: bk) = x.1 ++ mpts bk := by unfold mpts; simp
    rw [e] at h
    have h' := List.pairwise_append.mp h
    refine List.pairwise_cons.mpr ⟨fun y hy => ?_, lst_B h'.2.1 (fun z hz => hn z (List.mem_cons_of_mem _ hz))⟩
    obtain ⟨p, hp1, hp2⟩ := last_T (hn x List.mem_cons_self)
    obtain ⟨q, hq1, hq2⟩ := last_T (hn y (List.mem_cons_of_mem _ hy))
    rw [hp2, hq2]
    refine h'.2.2 p (List.mem_of_getElem? hp1) q ?_
    unfold mpts
    rw [List.mem_flatten]
    exact ⟨y.1, List.mem_map.mpr ⟨y, hy, rfl⟩, List.mem_of_getElem? hq1⟩
theorem drop_eq {S : SER} (t : Int32) (h1 : S.2.2.1.Pairwise (fun x y => x.2.1 < y.2.1)) (h2 : srt (mpts S.2.2.2.1)) (h3 : neB S.2.2.2.1) : drpS S t = mDrp S t ∧ S.2.2.1.length - (S.2.2.1.filter (kpS t)).length + (S.2.2.2.1.length - (S.2.2.2.1.filter (kpB t)).length) = dpS t S.2.2.1 + dpB t S.2.2.2.1 := by
  have e1 := fil_S t h1
  have e2 := fil_B t (lst_B h2 h3)
  have l1 := dpS_le t S.2.2.1
  have l2 := dpB_le t S.2.2.2.1
  refine ⟨?_, ?_⟩
  · unfold drpS mDrp; rw [e1, e2]
  · rw [e1, e2, List.length_drop, List.length_drop]; omega
