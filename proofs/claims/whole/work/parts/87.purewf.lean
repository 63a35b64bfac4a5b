/-! a series in order, and kept so by every call -/
def PO (e : Int32) (p : PT) : Prop := (0 ≤ p.1.toInt ∧ p.1.toInt ≤ 1000000000) ∧ vOK p.2 ∧ ¬ p.1 < e
def WSr (S : SER) : Prop := neB S.2.2.2.1 ∧ ((mpts S.2.2.2.1).length ≤ 300 ∧ srt (mpts S.2.2.2.1) ∧ ∀ p, p ∈ mpts S.2.2.2.1 → PO (sEnd S.2.2.1) p) ∧ (S.2.2.2.2.length ≤ 40 ∧ srt S.2.2.2.2 ∧ ∀ p, p ∈ S.2.2.2.2 → PO (sEnd S.2.2.1) p) ∧ (S.2.2.1.length ≤ 60 ∧ rsE S.2.2.1 ∧ szOK 400 S.2.2.1 ∧ spV S.2.2.1)
theorem srt_1 (p : PT) : srt [p] := srt_cons.mpr ⟨fun _ h => (by cases h), srt_nil⟩
theorem vOK_d {kd : Int32} {v : Int64} (h : isVd kd v = 1) : vOK v := by
  unfold isVd at h
  split at h
  · split at h
    · rename_i c
      rcases c with e | e
      · rw [e]; unfold vOK; decide
      · rw [e]; unfold vOK; decide
    · exact absurd h (by decide)
  · split at h
    · rename_i c
      have c1 := c.1.1
      have c2 := c.1.2
      rw [Int64.lt_iff_toInt_lt] at c1 c2
      rw [show (-1000000000000 : Int64).toInt = -1000000000000 by decide] at c1
      rw [show (1000000000000 : Int64).toInt = 1000000000000 by decide] at c2
      unfold vOK
      omega
    · exact absurd h (by decide)
theorem isLt_srt {bk : List BLK} {t : Int32} (h0 : neB bk) (h1 : srt (mpts bk)) (h : ¬ isLt bk t = true) : ∀ p, p ∈ mpts bk → p.1 < t := by
  intro p hp
  rcases nil_snoc bk with e | ⟨b, x, e⟩
  · subst e; cases hp
  · subst e
    unfold isLt at h
    rw [List.getLast?_concat] at h
    have h : ¬ decide (¬ eT (enc x.1) < t) = true := h
    rw [decide_eq_true_iff, Decidable.not_not] at h
    rw [mpts_app, mpts_1] at h1 hp
    have h1' := srt_app.mp h1
    obtain ⟨q, hq1, hq2⟩ := last_T (h0 x (by simp))
    rcases List.mem_append.mp hp with f | f
    · rw [hq2] at h
      exact Int32.lt_trans (h1'.2.2 p f q (List.mem_of_getElem? hq1)) h
    · exact i32_nln (blk_bd h1'.2.1 f).2 h
theorem plL_ok {lt : List PT} {p : PT} (h1 : srt lt) (hl : lt.length ≤ 40) : (plL lt p).2.length ≤ 40 ∧ srt (plL lt p).2 ∧ ∀ x, x ∈ (plL lt p).2 → x = p ∨ x ∈ lt := by
  have hm : ∀ x, x ∈ insL p lt → x = p ∨ x ∈ lt := fun x hx => by
    rcases (insL_mem h1 x).mp hx with e | ⟨e, -⟩
    · exact Or.inl e
    · exact Or.inr e
  unfold plL
  by_cases c : hasT lt p.1 = true
  · rw [if_pos c]
    have hl2 : (insL p lt).length = lt.length := by
      unfold hasT at c
      cases hg : lt[lbl p.1 lt]? with
      | none => rw [hg] at c; cases c
      | some q =>
        rw [hg] at c
        rw [insL_set p lt q hg (of_decide_eq_true c), List.length_set]
    exact ⟨by show (insL p lt).length ≤ 40; omega, insL_srt h1, hm⟩
  · rw [if_neg c]
    by_cases d : lt.length = 40
    · rw [if_pos d]; exact ⟨hl, h1, fun x hx => Or.inr hx⟩
    · rw [if_neg d]
      have h2 : (insL p lt).length ≤ lt.length + 1 := (insF_le lt p).2
      exact ⟨by show (insL p lt).length ≤ 40; omega, insL_srt h1, hm⟩
theorem WSr.pl0 {S : SER} (h : WSr S) (p : PT) : WSr (setBL S (plc S.1 S.2.2.1 S.2.2.2.1 S.2.2.2.2 p).2) := by
  obtain ⟨kd, lab, sp, bk, lt⟩ := S
  have hS := h
  obtain ⟨h0, ⟨a1, a2, a3⟩, ⟨b1, b2, b3⟩, h4⟩ := h
  have a1 : (mpts bk).length ≤ 300 := a1
  have a2 : srt (mpts bk) := a2
  have a3 : ∀ p, p ∈ mpts bk → PO (sEnd sp) p := a3
  have b1 : lt.length ≤ 40 := b1
  have b2 : srt lt := b2
  have b3 : ∀ p, p ∈ lt → PO (sEnd sp) p := b3
  show WSr (kd, lab, sp, (plc kd sp bk lt p).2.1, (plc kd sp bk lt p).2.2)
  unfold plc
  by_cases c1 : (¬ p.1 < 0 ∧ ¬ 1000000000 < p.1) ∧ isVd kd p.2 = 1
  · rw [if_neg (fun z => z c1)]
    by_cases c2 : p.1 < sEnd sp
    · rw [if_pos c2]; exact hS
    · rw [if_neg c2]
      have hp : PO (sEnd sp) p := by
        refine ⟨?_, vOK_d c1.2, c2⟩
        have e1 := c1.1.1
        have e2 := c1.1.2
        rw [Int32.lt_iff_toInt_lt, show (0 : Int32).toInt = 0 from rfl] at e1
        rw [Int32.lt_iff_toInt_lt, show (1000000000 : Int32).toInt = 1000000000 from rfl] at e2
        omega
      by_cases c3 : isLt bk p.1 = true
      · rw [if_pos c3]
        obtain ⟨l1, l2, l3⟩ := plL_ok (p := p) b2 b1
        exact ⟨h0, ⟨a1, a2, a3⟩, ⟨l1, l2, fun x hx => (l3 x hx).elim (fun e => by rw [e]; exact hp) (b3 x)⟩, h4⟩
      · rw [if_neg c3]
        by_cases c4 : 300 ≤ (mpts bk).length
        · rw [if_pos c4]; exact hS
        · rw [if_neg c4]
          refine ⟨neB_apM p h0, ⟨?_, ?_, ?_⟩, ⟨b1, b2, b3⟩, h4⟩
          · show (mpts (apM bk p)).length ≤ 300
            rw [apM_pts, List.length_append, List.length_singleton]; omega
          · show srt (mpts (apM bk p))
            rw [apM_pts]
            exact srt_app.mpr ⟨a2, srt_1 p, fun x hx y hy => by rw [List.mem_singleton.mp hy]; exact isLt_srt h0 a2 c3 x hx⟩
          · intro x hx
            have hx : x ∈ mpts (apM bk p) := hx
            rw [apM_pts] at hx
            rcases List.mem_append.mp hx with f | f
            · exact a3 x f
            · rw [List.mem_singleton.mp f]; exact hp
  · rw [if_pos c1]; exact hS
theorem WSr.fl0 {S : SER} (st : Int32) (ri : Int64) : ∀ (d : Nat) (r : List BLK × List PT) (t : Int32) (v : Int64), WSr (setBL S r) → WSr (setBL S (flc S.1 S.2.2.1 st ri d r t v).2)
  | 0, _, _, _, h => h
  | d + 1, r, t, v, h => by
    have h1 : WSr (setBL S (plc S.1 S.2.2.1 r.1 r.2 (t, v)).2) := WSr.pl0 h (t, v)
    rw [flc]
    by_cases c : (plc S.1 S.2.2.1 r.1 r.2 (t, v)).1 = 1
    · rw [if_pos c]; exact WSr.fl0 st ri d _ _ _ h1
    · rw [if_neg c]; exact h1
theorem rb_ok : ∀ (r : List PT) (bk : List BLK), neB bk → neB (r.foldl apM bk) ∧ mpts (r.foldl apM bk) = mpts bk ++ r
  | [], bk, h => ⟨h, (List.append_nil _).symm⟩
  | p :: r, bk, h => by
    obtain ⟨h1, h2⟩ := rb_ok r (apM bk p) (neB_apM p h)
    rw [List.foldl_cons]
    refine ⟨h1, ?_⟩
    rw [h2, apM_pts, List.append_assoc]; rfl
theorem rb_ne (l : List PT) : neB (rb l) := (rb_ok l [] (fun _ h => by cases h)).1
theorem rb_pts (l : List PT) : mpts (rb l) = l := (rb_ok l [] (fun _ h => by cases h)).2
theorem torn_0 : ∀ {bk : List BLK}, tornN bk = 0 → ∀ x, x ∈ bk → tornB x = false
  | [], _, _, hx => by cases hx
  | y :: bk, h, x, hx => by
    have e : tornN (y :: bk) = (if tornB y then 1 else 0) + tornN bk := by
      unfold tornN; rw [List.map_cons, List.sum_cons]
    rw [e] at h
    have h1 : tornB y = false := by
      cases hy : tornB y with
      | false => rfl
      | true => rw [hy, if_pos rfl] at h; omega
    rcases List.mem_cons.mp hx with f | f
    · rw [f]; exact h1
    · exact torn_0 (by omega) x f
theorem unt_all {bk : List BLK} (h : tornN bk = 0) : unt bk = bk := by
  unfold unt
  rw [List.filter_eq_self]
  intro x hx
  rw [torn_0 h x hx]; rfl
theorem mg_PO {pts lt : List PT} {e : Int32} (h1 : srt pts) (h2 : srt lt) (p1 : ∀ p, p ∈ pts → PO e p) (p2 : ∀ p, p ∈ lt → PO e p) : ∀ p, p ∈ mgR pts lt → PO e p := fun p hp => by
  rcases (mgR_mem h1 h2 p).mp hp with f | ⟨f, -⟩
  · exact p2 p f
  · exact p1 p f
theorem mgA_eq {S : SER} (h : WSr S) (ht : tornN S.2.2.2.1 = 0) : mgA S = mgR (mpts S.2.2.2.1) S.2.2.2.2 := by
  obtain ⟨h0, ⟨a1, a2, a3⟩, ⟨b1, b2, b3⟩, h4⟩ := h
  unfold mgA
  rw [unt_all ht, gth_eq 0 2147483647 a2 b2, List.filter_eq_self]
  intro p hp
  obtain ⟨⟨g1, g2⟩, -, -⟩ := mg_PO a2 b2 a3 b3 p hp
  rw [wn_iff, Int32.lt_iff_toInt_lt, Int32.lt_iff_toInt_lt, show (0 : Int32).toInt = 0 from rfl, show (2147483647 : Int32).toInt = 2147483647 from rfl]
  omega
theorem WSr.mg0 {S : SER} (h : WSr S) (ht : tornN S.2.2.2.1 = 0) (hl : (mgA S).length ≤ 300) : WSr (setBL S (rb (mgA S), [])) := by
  have e := mgA_eq h ht
  obtain ⟨h0, ⟨a1, a2, a3⟩, ⟨b1, b2, b3⟩, h4⟩ := h
  refine ⟨rb_ne _, ⟨?_, ?_, ?_⟩, ⟨Nat.zero_le _, srt_nil, fun _ h => by cases h⟩, h4⟩
  · show (mpts (rb (mgA S))).length ≤ 300
    rw [rb_pts]; exact hl
  · show srt (mpts (rb (mgA S)))
    rw [rb_pts, e]; exact mgR_srt a2 b2
  · show ∀ p, p ∈ mpts (rb (mgA S)) → PO (sEnd S.2.2.1) p
    rw [rb_pts, e]; exact mg_PO a2 b2 a3 b3
theorem mgR_nil {ps : List PT} (h : srt ps) : mgR ps [] = ps := srt_ext (mgR_srt h srt_nil) h (fun x => by
  rw [mgR_mem h srt_nil]
  constructor
  · rintro (f | ⟨f, -⟩)
    · cases f
    · exact f
  · exact fun f => Or.inr ⟨f, fun y hy => by cases hy⟩)
theorem mgA_0 {S : SER} (h : WSr S) (ht : tornN S.2.2.2.1 = 0) (hl : S.2.2.2.2 = []) : mgA S = mpts S.2.2.2.1 := by
  rw [mgA_eq h ht, hl, mgR_nil h.2.1.2.1]
theorem WSr.th0 {S : SER} {t w : Int32} (h : WSr S) (ht : tornN S.2.2.2.1 = 0) (hl : S.2.2.2.2 = []) (c1 : ¬ w < 1) (c2 : ¬ 1000000 < w) (c4 : ¬ 1000000000 < t) (c5 : t - t / w * w = 0) (c6 : ¬ t < sEnd S.2.2.1) (hn : (((mgA S).take (lbl t (mgA S))).foldl (adS w) S.2.2.1).length ≤ 60) : WSr (thS S t w) := by
  have e := mgA_0 h ht hl
  obtain ⟨h0, ⟨a1, a2, a3⟩, ⟨b1, b2, b3⟩, ⟨s1, s2, s3, s4⟩⟩ := h
  unfold thS
  rw [e] at hn ⊢
  obtain ⟨kd, lab, sp, bk, lt⟩ := S
  have a1 : (mpts bk).length ≤ 300 := a1
  have a2 : srt (mpts bk) := a2
  have a3 : ∀ p, p ∈ mpts bk → PO (sEnd sp) p := a3
  have hl : lt = [] := hl
  have htt : t.toInt ≤ 1000000000 := by
    rw [Int32.lt_iff_toInt_lt, show (1000000000 : Int32).toInt = 1000000000 from rfl] at c4
    omega
  have tk : ∀ q, q ∈ (mpts bk).take (lbl t (mpts bk)) → PO (sEnd sp) q ∧ q.1 < t := fun q hq => ⟨a3 q (List.mem_of_mem_take hq), lbl_lt t _ q hq⟩
  have ltk : ((mpts bk).take (lbl t (mpts bk))).length ≤ 300 := by rw [List.length_take]; omega
  refine ⟨rb_ne _, ⟨?_, ?_, fun p hp => ?_⟩, ⟨b1, b2, fun p hp => ?_⟩, ⟨hn, ?_, ?_, ?_⟩⟩
  · show (mpts (rb ((mpts bk).drop (lbl t (mpts bk))))).length ≤ 300
    rw [rb_pts, List.length_drop]; omega
  · show srt (mpts (rb ((mpts bk).drop (lbl t (mpts bk)))))
    rw [rb_pts]; exact srt_drop a2 _
  · have hp : p ∈ mpts (rb ((mpts bk).drop (lbl t (mpts bk)))) := hp
    rw [rb_pts] at hp
    obtain ⟨p1, p2, -⟩ := a3 p (List.mem_of_mem_drop hp)
    have h7 : ¬ t < sEnd (((mpts bk).take (lbl t (mpts bk))).foldl (adS w) sp) := end_fold c1 c2 htt c5 (fun q hq => ⟨(tk q hq).1.1.1, (tk q hq).2⟩) c6
    exact ⟨p1, p2, i32_nnn h7 (lbl_dr a2 p hp)⟩
  · have hp : p ∈ lt := hp
    rw [hl] at hp; cases hp
  · exact rsE_fold c1 c2 (fun q hq => (tk q hq).1.1) s2
  · exact szOK_th s3 ltk (fun q hq => (tk q hq).1.2.2)
  · exact spV_fold (fun q hq => (tk q hq).1.2.1) s4
theorem sEnd_drop (sp : List SPN) (n : Nat) : sEnd (sp.drop n) = sEnd sp ∨ sEnd (sp.drop n) = 0 := by
  by_cases c : n < sp.length
  · rcases nil_snoc sp with e | ⟨l, x, e⟩
    · subst e; exact Or.inl (by rw [List.drop_nil])
    · subst e
      rw [List.length_append, List.length_singleton] at c
      refine Or.inl ?_
      rw [List.drop_append_of_le_length (by omega)]
      unfold sEnd
      rw [List.getLast?_concat, List.getLast?_concat]
  · refine Or.inr ?_
    rw [List.drop_eq_nil_of_le (by omega)]; rfl
theorem WSr.dr0 {S : SER} (h : WSr S) (t : Int32) : WSr (drpS S t) := by
  obtain ⟨h0, ⟨a1, a2, a3⟩, ⟨b1, b2, b3⟩, ⟨s1, s2, s3, s4⟩⟩ := h
  rw [(drop_eq t s2 a2 h0).1]
  unfold mDrp
  have hPO : ∀ p, PO (sEnd S.2.2.1) p → PO (sEnd (S.2.2.1.drop (dpS t S.2.2.1))) p := fun p ⟨p1, p2, p3⟩ => by
    refine ⟨p1, p2, ?_⟩
    rcases sEnd_drop S.2.2.1 (dpS t S.2.2.1) with e | e
    · rw [e]; exact p3
    · rw [e, Int32.lt_iff_toInt_lt, show (0 : Int32).toInt = 0 from rfl]; omega
  refine ⟨fun x hx => h0 x (List.mem_of_mem_drop hx), ⟨?_, ?_, fun p hp => ?_⟩, ⟨?_, ?_, fun p hp => ?_⟩, ⟨?_, ?_, ?_, ?_⟩⟩
  · show (mpts (S.2.2.2.1.drop (dpB t S.2.2.2.1))).length ≤ 300
    rw [mpts_drop, List.length_drop]; omega
  · show srt (mpts (S.2.2.2.1.drop (dpB t S.2.2.2.1)))
    rw [mpts_drop]; exact srt_drop a2 _
  · have hp : p ∈ mpts (S.2.2.2.1.drop (dpB t S.2.2.2.1)) := hp
    rw [mpts_drop] at hp
    exact hPO p (a3 p (List.mem_of_mem_drop hp))
  · show (S.2.2.2.2.drop (lbl t S.2.2.2.2)).length ≤ 40
    rw [List.length_drop]; omega
  · exact srt_drop b2 _
  · exact hPO p (b3 p (List.mem_of_mem_drop hp))
  · show (S.2.2.1.drop (dpS t S.2.2.1)).length ≤ 60
    rw [List.length_drop]; omega
  · exact List.Pairwise.sublist (List.drop_sublist _ _) s2
  · exact fun x hx => s3 x (List.mem_of_mem_drop hx)
  · exact fun x hx => s4 x (List.mem_of_mem_drop hx)
theorem WSr.te0 {S : SER} (h : WSr S) {j : Nat} {X : BLK} (hj : S.2.2.2.1[j]? = some X) (f : Nat → Int32) : WSr (setBk S (S.2.2.2.1.set j (X.1, f))) := by
  obtain ⟨h0, h1, h2, h3⟩ := h
  have e : mpts (S.2.2.2.1.set j (X.1, f)) = mpts S.2.2.2.1 := by
    unfold mpts
    congr 1
    apply List.ext_getElem?
    intro i
    rw [List.getElem?_map, List.getElem?_map, List.getElem?_set]
    by_cases c : j = i
    · subst c
      rw [if_pos rfl, hj]
      by_cases d : j < S.2.2.2.1.length
      · rw [if_pos d]; rfl
      · exact absurd (List.getElem?_eq_some_iff.mp hj).1 d
    · rw [if_neg c]
  refine ⟨fun x hx => ?_, ?_, h2, h3⟩
  · rcases List.mem_or_eq_of_mem_set hx with g | g
    · exact h0 x g
    · rw [g]; exact h0 X (List.mem_of_getElem? hj)
  · show (mpts (S.2.2.2.1.set j (X.1, f))).length ≤ 300 ∧ srt (mpts (S.2.2.2.1.set j (X.1, f))) ∧ ∀ p, p ∈ mpts (S.2.2.2.1.set j (X.1, f)) → PO (sEnd S.2.2.1) p
    rw [e]; exact h1
theorem WSr.new0 (kd : Int32) : WSr (newSer kd) := ⟨fun _ h => (by cases h), ⟨Nat.zero_le _, srt_nil, fun _ h => by cases h⟩, ⟨Nat.zero_le _, srt_nil, fun _ h => by cases h⟩, ⟨Nat.zero_le _, List.Pairwise.nil, fun _ h => (by cases h), fun _ h => by cases h⟩⟩
