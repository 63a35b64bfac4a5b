/-! the river: late points, spans, numbers, labels -/
def ltA (lt : List PT) (i : Int32) : Option PT := if i < 0 then none else lt[i.toNatClampNeg]?
def spA (sp : List SPN) (i : Int32) : Option SPN := if i < 0 then none else sp[i.toNatClampNeg]?
def aLat (q : PT) (w : Int32) : Int64 := if w = 0 then q.1.toInt64 else if w = 1 then q.2 else NOv
def aLate (L : List SER) (i j w : Int32) : Int64 := match ser L i with
  | none => NOv
  | some S => match ltA S.2.2.2.2 j with
    | none => NOv
    | some q => aLat q w
def csX6_late : CS := (cs_c 0 38 2 6 sp_X6_seriesAt (cs_c 0 182 2 4 sp_X4_hasLate (cs_c 0 185 2 4 sp_X4_lateTime (cs_c 0 188 2 4 sp_X4_lateValue cs_0))))
theorem csoX6_late : ∀ op x na cl sp, csX6_late op x = some (na, cl, sp) → CallOK 6 2 42 op x na cl sp := (cs_c_ok (caX6_late_38 okX6_seriesAt) (cs_c_ok (caX6_late_182 okX4_hasLate) (cs_c_ok (caX6_late_185 okX4_lateTime) (cs_c_ok (caX6_late_188 okX4_lateValue) cs_0_ok))))
theorem xcX6_late : (∀ (Q : QT) (G : GT) (pc : Nat) (L : LV) (a0 a1 : Value) (r : List Value) (M : HM) (k n : Nat), ex_i 6 5 2 false csX6_late Q G (.invokevirtual 38) pc L (a1 :: a0 :: r) M k n = (e_rm r ∧ e_rc M 6 [a0, a1] ∧ sp_X6_seriesAt [a0, a1] M k n (fun v M' k' n' => G (pc + 3) L (v.toList ++ r) M' k' n'))) ∧ (∀ (Q : QT) (G : GT) (pc : Nat) (L : LV) (a0 a1 : Value) (r : List Value) (M : HM) (k n : Nat), ex_i 6 5 2 false csX6_late Q G (.invokevirtual 182) pc L (a1 :: a0 :: r) M k n = (e_rm r ∧ e_rc M 4 [a0, a1] ∧ sp_X4_hasLate [a0, a1] M k n (fun v M' k' n' => G (pc + 3) L (v.toList ++ r) M' k' n'))) ∧ (∀ (Q : QT) (G : GT) (pc : Nat) (L : LV) (a0 a1 : Value) (r : List Value) (M : HM) (k n : Nat), ex_i 6 5 2 false csX6_late Q G (.invokevirtual 185) pc L (a1 :: a0 :: r) M k n = (e_rm r ∧ e_rc M 4 [a0, a1] ∧ sp_X4_lateTime [a0, a1] M k n (fun v M' k' n' => G (pc + 3) L (v.toList ++ r) M' k' n'))) ∧ (∀ (Q : QT) (G : GT) (pc : Nat) (L : LV) (a0 a1 : Value) (r : List Value) (M : HM) (k n : Nat), ex_i 6 5 2 false csX6_late Q G (.invokevirtual 188) pc L (a1 :: a0 :: r) M k n = (e_rm r ∧ e_rc M 4 [a0, a1] ∧ sp_X4_lateValue [a0, a1] M k n (fun v M' k' n' => G (pc + 3) L (v.toList ++ r) M' k' n'))) := ⟨(fun _ _ _ _ _ _ _ _ _ _ => xv0_2 rfl), (fun _ _ _ _ _ _ _ _ _ _ => xv0_2 rfl), (fun _ _ _ _ _ _ _ _ _ _ => xv0_2 rfl), (fun _ _ _ _ _ _ _ _ _ _ => xv0_2 rfl)⟩
def sp_X6_late : SP := fun as M k n Q => match as with
  | [.ref x, .int i, .int j, .int w] => ∃ O L sc ct tr, NRep O M x L sc ct tr ∧ Q (some (.long (aLate L i j w))) M k n
  | _ => False
theorem okX6_late : OkX6_late sp_X6_late := by
  refine inX6_late csoX6_late ?_
  intro as M k n Q hsp
  unfold sp_X6_late at hsp
  split at hsp
  rotate_left
  · exact hsp.elim
  rename_i x i j w
  obtain ⟨O, L, sc, ct, tr, hN, hq⟩ := hsp
  have k0 := hN.1.1.1
  have kR := hN.1.1
  refine ⟨0, 0, Nat.zero_le _, Nat.zero_le _, Nat.le_of_ble_eq_true rfl, fun G hG => ?_⟩
  unfold aLate at hq
  rcases hN.sa i with ⟨h1, h2⟩ | ⟨i', S, h1, rfl, h3, h4, h5, h6⟩
  · rw [h1] at hq
    refine e_g2 hG [] 40 ?_
    simp only [e_wp_s, Option.getD_some, Option.isSome_some, Option.isSome_none, xis0, xis1, xis2, xis3, xis4, e_ks, lk_k, lk_c, List.lookup_nil, gt_c, vi_i, k1_n, k1_c, k2_n, k2_c, ar_n, ar_c, pk_n, pk_c, rm_0, rm_1, rm_2, rm_3, rm_4, rm_5, rc_9, rcs, fvs, rf_s, rf_n, isI_i, isL_l, isR_r, isR_n, isR_q, ct_i, ct_l, ct_r, ct_n, ct_q, tFs, tCs, tKs, tJs, tSs, e_nf, lgs, ↓reduceIte, true_and, and_true, false_and, and_false, or_true, true_or, false_or, or_false, Nat.reduceAdd, Nat.reduceEqDiff, Nat.reduceDiv, Nat.reduceLT, Nat.reduceLeDiff, Nat.zero_add, reduceCtorEq, Bool.false_eq_true, Option.toList_some, Option.toList_none, List.cons_append, List.nil_append, not_true_eq_false, not_false_eq_true, Nat.sub_zero, dsX6_late, jsX6_late, xcX6_late, k0, kR, h2, ↓sp_X6_seriesAt]
    exact hq
  · simp only [h1] at hq
    have s0 := h5.1.1.1
    have sR := h5.1.1
    obtain ⟨lc, l40, -⟩ := h5.2.2.2.2
    unfold ltA at hq
    by_cases c : j < 0
    · rw [if_pos c] at hq
      refine e_g2 hG [] 40 ?_
      simp only [e_wp_s, Option.getD_some, Option.isSome_some, Option.isSome_none, xis0, xis1, xis2, xis3, xis4, e_ks, lk_k, lk_c, List.lookup_nil, gt_c, vi_i, k1_n, k1_c, k2_n, k2_c, ar_n, ar_c, pk_n, pk_c, rm_0, rm_1, rm_2, rm_3, rm_4, rm_5, rc_9, rcs, fvs, rf_s, rf_n, isI_i, isL_l, isR_r, isR_n, isR_q, ct_i, ct_l, ct_r, ct_n, ct_q, tFs, tCs, tKs, tJs, tSs, e_nf, lgs, ↓reduceIte, true_and, and_true, false_and, and_false, or_true, true_or, false_or, or_false, Nat.reduceAdd, Nat.reduceEqDiff, Nat.reduceDiv, Nat.reduceLT, Nat.reduceLeDiff, Nat.zero_add, reduceCtorEq, Bool.false_eq_true, Option.toList_some, Option.toList_none, List.cons_append, List.nil_append, not_true_eq_false, not_false_eq_true, Nat.sub_zero, dsX6_late, jsX6_late, xcX6_late, k0, kR, h4, s0, c, i10, ↓sp_X6_seriesAt, ↓sp_X4_hasLate]
      exact hq
    · obtain ⟨j', hj, rfl⟩ := nI_of c
      rw [if_neg c, nI_clamp hj] at hq
      cases hx : S.2.2.2.2[j']? with
      | none =>
        rw [hx] at hq
        have e1 : ¬ nI j' < nI S.2.2.2.2.length := nI_nlt (List.getElem?_eq_none_iff.mp hx) hj
        refine e_g2 hG [] 40 ?_
        simp only [e_wp_s, Option.getD_some, Option.isSome_some, Option.isSome_none, xis0, xis1, xis2, xis3, xis4, e_ks, lk_k, lk_c, List.lookup_nil, gt_c, vi_i, k1_n, k1_c, k2_n, k2_c, ar_n, ar_c, pk_n, pk_c, rm_0, rm_1, rm_2, rm_3, rm_4, rm_5, rc_9, rcs, fvs, rf_s, rf_n, isI_i, isL_l, isR_r, isR_n, isR_q, ct_i, ct_l, ct_r, ct_n, ct_q, tFs, tCs, tKs, tJs, tSs, e_nf, lgs, ↓reduceIte, true_and, and_true, false_and, and_false, or_true, true_or, false_or, or_false, Nat.reduceAdd, Nat.reduceEqDiff, Nat.reduceDiv, Nat.reduceLT, Nat.reduceLeDiff, Nat.zero_add, reduceCtorEq, Bool.false_eq_true, Option.toList_some, Option.toList_none, List.cons_append, List.nil_append, not_true_eq_false, not_false_eq_true, Nat.sub_zero, dsX6_late, jsX6_late, xcX6_late, k0, kR, h4, s0, c, lc, e1, i10, ↓sp_X6_seriesAt, ↓sp_X4_hasLate]
        exact hq
      | some q =>
        rw [hx] at hq
        obtain ⟨w1, w2, w3, w4⟩ := SRep.ltA h5 hx
        have e1 : nI j' < nI S.2.2.2.2.length := nI_lt w3 (by omega)
        have e2 : nI j' < 40 := nI_lt (b := 40) w4 (by decide)
        have f1 : ltF M (sA M x i') (nI j') = q.1 := by rw [ltF_at lc l40 w3, w1]
        have f2 : lvF M (sA M x i') (nI j') = q.2 := by rw [lvF_at lc l40 w3, w2]
        refine e_g2 hG [] 60 ?_
        simp only [e_wp_s, Option.getD_some, Option.isSome_some, Option.isSome_none, xis0, xis1, xis2, xis3, xis4, e_ks, lk_k, lk_c, List.lookup_nil, gt_c, vi_i, k1_n, k1_c, k2_n, k2_c, ar_n, ar_c, pk_n, pk_c, rm_0, rm_1, rm_2, rm_3, rm_4, rm_5, rc_9, rcs, fvs, rf_s, rf_n, isI_i, isL_l, isR_r, isR_n, isR_q, ct_i, ct_l, ct_r, ct_n, ct_q, tFs, tCs, tKs, tJs, tSs, e_nf, lgs, ↓reduceIte, true_and, and_true, false_and, and_false, or_true, true_or, false_or, or_false, Nat.reduceAdd, Nat.reduceEqDiff, Nat.reduceDiv, Nat.reduceLT, Nat.reduceLeDiff, Nat.zero_add, reduceCtorEq, Bool.false_eq_true, Option.toList_some, Option.toList_none, List.cons_append, List.nil_append, not_true_eq_false, not_false_eq_true, Nat.sub_zero, dsX6_late, jsX6_late, xcX6_late, k0, kR, h4, s0, sR, c, lc, e1, e2, f1, f2, i10, ↓sp_X6_seriesAt, ↓sp_X4_hasLate, ↓sp_X4_lateTime, ↓sp_X4_lateValue, e_tw, e_lw, Int.reduceAdd, tis]
        refine ⟨rfl, ?_⟩
        simp only [aLat] at hq
        by_cases c0' : w = 0
        · subst c0'
          simpa using hq
        by_cases c1' : w = 1
        · subst c1'
          simpa using hq
        simpa [NOv, c0', c1'] using hq
def aSpn (X : SPN) (w : Int32) : Int64 := if w = 0 then X.1.toInt64 else if w = 1 then X.2.1.toInt64 else if w = 2 then X.2.2.1.toInt64 else if w = 3 then X.2.2.2.1 else if w = 4 then X.2.2.2.2.1 else if w = 5 then X.2.2.2.2.2.1 else if w = 6 then X.2.2.2.2.2.2.1 else if w = 7 then X.2.2.2.2.2.2.2 else NOv
def aSpan (L : List SER) (i j w : Int32) : Int64 := match ser L i with
  | none => NOv
  | some S => match spA S.2.2.1 j with
    | none => NOv
    | some X => aSpn X w
def csX6_span : CS := (cs_c 0 38 2 6 sp_X6_seriesAt (cs_c 0 192 2 4 sp_X4_spanAt cs_0))
theorem csoX6_span : ∀ op x na cl sp, csX6_span op x = some (na, cl, sp) → CallOK 6 1 21 op x na cl sp := (cs_c_ok (caX6_span_38 okX6_seriesAt) (cs_c_ok (caX6_span_192 okX4_spanAt) cs_0_ok))
theorem xcX6_span : (∀ (Q : QT) (G : GT) (pc : Nat) (L : LV) (a0 a1 : Value) (r : List Value) (M : HM) (k n : Nat), ex_i 6 6 2 false csX6_span Q G (.invokevirtual 38) pc L (a1 :: a0 :: r) M k n = (e_rm r ∧ e_rc M 6 [a0, a1] ∧ sp_X6_seriesAt [a0, a1] M k n (fun v M' k' n' => G (pc + 3) L (v.toList ++ r) M' k' n'))) ∧ (∀ (Q : QT) (G : GT) (pc : Nat) (L : LV) (a0 a1 : Value) (r : List Value) (M : HM) (k n : Nat), ex_i 6 6 2 false csX6_span Q G (.invokevirtual 192) pc L (a1 :: a0 :: r) M k n = (e_rm r ∧ e_rc M 4 [a0, a1] ∧ sp_X4_spanAt [a0, a1] M k n (fun v M' k' n' => G (pc + 3) L (v.toList ++ r) M' k' n'))) := ⟨(fun _ _ _ _ _ _ _ _ _ _ => xv0_2 rfl), (fun _ _ _ _ _ _ _ _ _ _ => xv0_2 rfl)⟩
def sp_X6_span : SP := fun as M k n Q => match as with
  | [.ref x, .int i, .int j, .int w] => ∃ O L sc ct tr, NRep O M x L sc ct tr ∧ Q (some (.long (aSpan L i j w))) M k n
  | _ => False
theorem okX6_span : OkX6_span sp_X6_span := by
  refine inX6_span csoX6_span ?_
  intro as M k n Q hsp
  unfold sp_X6_span at hsp
  split at hsp
  rotate_left
  · exact hsp.elim
  rename_i x i j w
  obtain ⟨O, L, sc, ct, tr, hN, hq⟩ := hsp
  have k0 := hN.1.1.1
  have kR := hN.1.1
  refine ⟨0, 0, Nat.zero_le _, Nat.zero_le _, Nat.le_of_ble_eq_true rfl, fun G hG => ?_⟩
  unfold aSpan at hq
  rcases hN.sa i with ⟨h1, h2⟩ | ⟨i', S, h1, rfl, h3, h4, h5, h6⟩
  · rw [h1] at hq
    refine e_g2 hG [] 40 ?_
    simp only [e_wp_s, Option.getD_some, Option.isSome_some, Option.isSome_none, xis0, xis1, xis2, xis3, xis4, e_ks, lk_k, lk_c, List.lookup_nil, gt_c, vi_i, k1_n, k1_c, k2_n, k2_c, ar_n, ar_c, pk_n, pk_c, rm_0, rm_1, rm_2, rm_3, rm_4, rm_5, rc_9, rcs, fvs, rf_s, rf_n, isI_i, isL_l, isR_r, isR_n, isR_q, ct_i, ct_l, ct_r, ct_n, ct_q, tFs, tCs, tKs, tJs, tSs, e_nf, lgs, ↓reduceIte, true_and, and_true, false_and, and_false, or_true, true_or, false_or, or_false, Nat.reduceAdd, Nat.reduceEqDiff, Nat.reduceDiv, Nat.reduceLT, Nat.reduceLeDiff, Nat.zero_add, reduceCtorEq, Bool.false_eq_true, Option.toList_some, Option.toList_none, List.cons_append, List.nil_append, not_true_eq_false, not_false_eq_true, Nat.sub_zero, dsX6_span, jsX6_span, xcX6_span, k0, kR, h2, ↓sp_X6_seriesAt]
    exact hq
  · simp only [h1] at hq
    have s0 := h5.1.1.1
    have sR := h5.1.1
    unfold spA at hq
    have no : (∃ hh : spF M (sA M x i') j = none, True) → Q (some (.long NOv)) M k n → G 0 [(0, .ref x), (1, .int (nI i')), (2, .int j), (3, .int w)] [] M 0 0 := fun ⟨hh, _⟩ hq => by
      refine e_g2 hG [] 60 ?_
      simp only [e_wp_s, Option.getD_some, Option.isSome_some, Option.isSome_none, xis0, xis1, xis2, xis3, xis4, e_ks, lk_k, lk_c, List.lookup_nil, gt_c, vi_i, k1_n, k1_c, k2_n, k2_c, ar_n, ar_c, pk_n, pk_c, rm_0, rm_1, rm_2, rm_3, rm_4, rm_5, rc_9, rcs, fvs, rf_s, rf_n, isI_i, isL_l, isR_r, isR_n, isR_q, ct_i, ct_l, ct_r, ct_n, ct_q, tFs, tCs, tKs, tJs, tSs, e_nf, lgs, ↓reduceIte, true_and, and_true, false_and, and_false, or_true, true_or, false_or, or_false, Nat.reduceAdd, Nat.reduceEqDiff, Nat.reduceDiv, Nat.reduceLT, Nat.reduceLeDiff, Nat.zero_add, reduceCtorEq, Bool.false_eq_true, Option.toList_some, Option.toList_none, List.cons_append, List.nil_append, not_true_eq_false, not_false_eq_true, Nat.sub_zero, dsX6_span, jsX6_span, xcX6_span, k0, kR, h4, s0, sR, hh, ↓sp_X6_seriesAt, ↓sp_X4_spanAt]
      exact hq
    by_cases c : j < 0
    · rw [if_pos c] at hq
      exact no ⟨SRep.sNo h5 (Or.inl c), trivial⟩ hq
    · obtain ⟨j', hj, rfl⟩ := nI_of c
      rw [if_neg c, nI_clamp hj] at hq
      cases hx : S.2.2.1[j']? with
      | none =>
        rw [hx] at hq
        exact no ⟨SRep.sNo h5 (Or.inr ⟨j', rfl, hj, List.getElem?_eq_none_iff.mp hx⟩), trivial⟩ hq
      | some X =>
        rw [hx] at hq
        obtain ⟨p, f1, -, ⟨p0, p1, p2, p3, p4, p5, p6, p7⟩, pk, -⟩ := SRep.sAt h5 hx
        refine e_g2 hG [] 60 ?_
        simp only [e_wp_s, Option.getD_some, Option.isSome_some, Option.isSome_none, xis0, xis1, xis2, xis3, xis4, e_ks, lk_k, lk_c, List.lookup_nil, gt_c, vi_i, k1_n, k1_c, k2_n, k2_c, ar_n, ar_c, pk_n, pk_c, rm_0, rm_1, rm_2, rm_3, rm_4, rm_5, rc_9, rcs, fvs, rf_s, rf_n, isI_i, isL_l, isR_r, isR_n, isR_q, ct_i, ct_l, ct_r, ct_n, ct_q, tFs, tCs, tKs, tJs, tSs, e_nf, lgs, ↓reduceIte, true_and, and_true, false_and, and_false, or_true, true_or, false_or, or_false, Nat.reduceAdd, Nat.reduceEqDiff, Nat.reduceDiv, Nat.reduceLT, Nat.reduceLeDiff, Nat.zero_add, reduceCtorEq, Bool.false_eq_true, Option.toList_some, Option.toList_none, List.cons_append, List.nil_append, not_true_eq_false, not_false_eq_true, Nat.sub_zero, dsX6_span, jsX6_span, xcX6_span, k0, kR, h4, s0, sR, f1, pk, p0, p1, p2, p3, p4, p5, p6, p7, ↓sp_X6_seriesAt, ↓sp_X4_spanAt, e_tw, e_lw, Int.reduceAdd, tis]
        refine ⟨rfl, ?_⟩
        simp only [aSpn] at hq
        by_cases c0' : w = 0
        · subst c0'
          simpa using hq
        by_cases c1' : w = 1
        · subst c1'
          simpa using hq
        by_cases c2' : w = 2
        · subst c2'
          simpa using hq
        by_cases c3' : w = 3
        · subst c3'
          simpa using hq
        by_cases c4' : w = 4
        · subst c4'
          simpa using hq
        by_cases c5' : w = 5
        · subst c5'
          simpa using hq
        by_cases c6' : w = 6
        · subst c6'
          simpa using hq
        by_cases c7' : w = 7
        · subst c7'
          simpa using hq
        simpa [NOv, c0', c1', c2', c3', c4', c5', c6', c7'] using hq
def aAbt (S : SER) (w : Int32) : Int32 := if w = 0 then S.1 else if w = 1 then nI S.2.2.2.1.length else if w = 2 then nI S.2.2.1.length else if w = 3 then nI S.2.2.2.2.length else if w = 4 then nI (mpts S.2.2.2.1).length else if w = 5 then nI (bitsN S.2.2.2.1) else if w = 6 then nI (tornN S.2.2.2.1) else -1
def aAbout (L : List SER) (i w : Int32) : Int32 := if i = -1 ∧ w = 0 then nI L.length else match ser L i with
  | none => -1
  | some S => aAbt S w
def csX6_about : CS := (cs_c 0 38 2 6 sp_X6_seriesAt (cs_c 0 256 1 4 sp_X4_mainPoints (cs_c 0 259 1 4 sp_X4_blockBits (cs_c 0 70 1 4 sp_X4_tornBlocks cs_0))))
theorem csoX6_about : ∀ op x na cl sp, csX6_about op x = some (na, cl, sp) → CallOK 6 2 44 op x na cl sp := (cs_c_ok (caX6_about_38 okX6_seriesAt) (cs_c_ok (caX6_about_256 okX4_mainPoints) (cs_c_ok (caX6_about_259 okX4_blockBits) (cs_c_ok (caX6_about_70 okX4_tornBlocks) cs_0_ok))))
theorem xcX6_about : (∀ (Q : QT) (G : GT) (pc : Nat) (L : LV) (a0 a1 : Value) (r : List Value) (M : HM) (k n : Nat), ex_i 6 4 1 false csX6_about Q G (.invokevirtual 38) pc L (a1 :: a0 :: r) M k n = (e_rm r ∧ e_rc M 6 [a0, a1] ∧ sp_X6_seriesAt [a0, a1] M k n (fun v M' k' n' => G (pc + 3) L (v.toList ++ r) M' k' n'))) ∧ (∀ (Q : QT) (G : GT) (pc : Nat) (L : LV) (a0 : Value) (r : List Value) (M : HM) (k n : Nat), ex_i 6 4 1 false csX6_about Q G (.invokevirtual 256) pc L (a0 :: r) M k n = (e_rm r ∧ e_rc M 4 [a0] ∧ sp_X4_mainPoints [a0] M k n (fun v M' k' n' => G (pc + 3) L (v.toList ++ r) M' k' n'))) ∧ (∀ (Q : QT) (G : GT) (pc : Nat) (L : LV) (a0 : Value) (r : List Value) (M : HM) (k n : Nat), ex_i 6 4 1 false csX6_about Q G (.invokevirtual 259) pc L (a0 :: r) M k n = (e_rm r ∧ e_rc M 4 [a0] ∧ sp_X4_blockBits [a0] M k n (fun v M' k' n' => G (pc + 3) L (v.toList ++ r) M' k' n'))) ∧ (∀ (Q : QT) (G : GT) (pc : Nat) (L : LV) (a0 : Value) (r : List Value) (M : HM) (k n : Nat), ex_i 6 4 1 false csX6_about Q G (.invokevirtual 70) pc L (a0 :: r) M k n = (e_rm r ∧ e_rc M 4 [a0] ∧ sp_X4_tornBlocks [a0] M k n (fun v M' k' n' => G (pc + 3) L (v.toList ++ r) M' k' n'))) := ⟨(fun _ _ _ _ _ _ _ _ _ _ => xv0_2 rfl), (fun _ _ _ _ _ _ _ _ _ => xv0_1 rfl), (fun _ _ _ _ _ _ _ _ _ => xv0_1 rfl), (fun _ _ _ _ _ _ _ _ _ => xv0_1 rfl)⟩
def sp_X6_about : SP := fun as M k n Q => match as with
  | [.ref x, .int i, .int w] => ∃ O L sc ct tr, NRep O M x L sc ct tr ∧ Q (some (.int (aAbout L i w))) M k n
  | _ => False
theorem okX6_about : OkX6_about sp_X6_about := by
  refine inX6_about csoX6_about ?_
  intro as M k n Q hsp
  unfold sp_X6_about at hsp
  split at hsp
  rotate_left
  · exact hsp.elim
  rename_i x i w
  obtain ⟨O, L, sc, ct, tr, hN, hq⟩ := hsp
  have k0 := hN.1.1.1
  have kR := hN.1.1
  have kc := hN.2.1.1
  refine ⟨0, 0, Nat.zero_le _, Nat.zero_le _, Nat.le_of_ble_eq_true rfl, fun G hG => ?_⟩
  unfold aAbout at hq
  by_cases c : i = -1 ∧ w = 0
  · rw [if_pos c] at hq
    obtain ⟨rfl, rfl⟩ := c
    refine e_g2 hG [] 40 ?_
    simp only [e_wp_s, Option.getD_some, Option.isSome_some, Option.isSome_none, xis0, xis1, xis2, xis3, xis4, e_ks, lk_k, lk_c, List.lookup_nil, gt_c, vi_i, k1_n, k1_c, k2_n, k2_c, ar_n, ar_c, pk_n, pk_c, rm_0, rm_1, rm_2, rm_3, rm_4, rm_5, rc_9, rcs, fvs, rf_s, rf_n, isI_i, isL_l, isR_r, isR_n, isR_q, ct_i, ct_l, ct_r, ct_n, ct_q, tFs, tCs, tKs, tJs, tSs, e_nf, lgs, ↓reduceIte, true_and, and_true, false_and, and_false, or_true, true_or, false_or, or_false, Nat.reduceAdd, Nat.reduceEqDiff, Nat.reduceDiv, Nat.reduceLT, Nat.reduceLeDiff, Nat.zero_add, reduceCtorEq, Bool.false_eq_true, Option.toList_some, Option.toList_none, List.cons_append, List.nil_append, not_true_eq_false, not_false_eq_true, Nat.sub_zero, dsX6_about, jsX6_about, xcX6_about, k0, kc]
    exact hq
  · rw [if_neg c] at hq
    have main : G 14 [(0, .ref x), (1, .int i), (2, .int w)] [] M 0 0 := by
      rcases hN.sa i with ⟨h1, h2⟩ | ⟨i', S, h1, rfl, h3, h4, h5, h6⟩
      · rw [h1] at hq
        refine e_g2 hG [] 40 ?_
        simp only [e_wp_s, Option.getD_some, Option.isSome_some, Option.isSome_none, xis0, xis1, xis2, xis3, xis4, e_ks, lk_k, lk_c, List.lookup_nil, gt_c, vi_i, k1_n, k1_c, k2_n, k2_c, ar_n, ar_c, pk_n, pk_c, rm_0, rm_1, rm_2, rm_3, rm_4, rm_5, rc_9, rcs, fvs, rf_s, rf_n, isI_i, isL_l, isR_r, isR_n, isR_q, ct_i, ct_l, ct_r, ct_n, ct_q, tFs, tCs, tKs, tJs, tSs, e_nf, lgs, ↓reduceIte, true_and, and_true, false_and, and_false, or_true, true_or, false_or, or_false, Nat.reduceAdd, Nat.reduceEqDiff, Nat.reduceDiv, Nat.reduceLT, Nat.reduceLeDiff, Nat.zero_add, reduceCtorEq, Bool.false_eq_true, Option.toList_some, Option.toList_none, List.cons_append, List.nil_append, not_true_eq_false, not_false_eq_true, Nat.sub_zero, dsX6_about, jsX6_about, xcX6_about, k0, kR, h2, ↓sp_X6_seriesAt]
        exact hq
      · simp only [h1] at hq
        have s0 := h5.1.1.1
        have sR := h5.1.1
        have sk := h5.2.1.1
        have sb := h5.2.2.2.1.1
        have ss := h5.2.2.1.1
        have sl := h5.2.2.2.2.1
        have hB := (SRep.BK h5).1
        have h4' : w = 4 → sp_X4_mainPoints [.ref (sA M x i')] M 0 0 (fun v M' k' n' => G 92 [] (v.toList ++ []) M' k' n') := fun e => by
          refine ⟨_, sR, hB, ?_⟩
          rw [SRep.mainN h5]
          refine e_g2 hG [] 20 ?_
          simp only [e_wp_s, Option.getD_some, Option.isSome_some, Option.isSome_none, xis0, xis1, xis2, xis3, xis4, e_ks, lk_k, lk_c, List.lookup_nil, gt_c, vi_i, k1_n, k1_c, k2_n, k2_c, ar_n, ar_c, pk_n, pk_c, rm_0, rm_1, rm_2, rm_3, rm_4, rm_5, rc_9, rcs, fvs, rf_s, rf_n, isI_i, isL_l, isR_r, isR_n, isR_q, ct_i, ct_l, ct_r, ct_n, ct_q, tFs, tCs, tKs, tJs, tSs, e_nf, lgs, ↓reduceIte, true_and, and_true, false_and, and_false, or_true, true_or, false_or, or_false, Nat.reduceAdd, Nat.reduceEqDiff, Nat.reduceDiv, Nat.reduceLT, Nat.reduceLeDiff, Nat.zero_add, reduceCtorEq, Bool.false_eq_true, Option.toList_some, Option.toList_none, List.cons_append, List.nil_append, not_true_eq_false, not_false_eq_true, Nat.sub_zero, dsX6_about, jsX6_about, xcX6_about]
          subst e; simpa [aAbt] using hq
        have h5' : w = 5 → sp_X4_blockBits [.ref (sA M x i')] M 0 0 (fun v M' k' n' => G 97 [] (v.toList ++ []) M' k' n') := fun e => by
          refine ⟨_, sR, hB, ?_⟩
          rw [SRep.bitsN h5]
          refine e_g2 hG [] 20 ?_
          simp only [e_wp_s, Option.getD_some, Option.isSome_some, Option.isSome_none, xis0, xis1, xis2, xis3, xis4, e_ks, lk_k, lk_c, List.lookup_nil, gt_c, vi_i, k1_n, k1_c, k2_n, k2_c, ar_n, ar_c, pk_n, pk_c, rm_0, rm_1, rm_2, rm_3, rm_4, rm_5, rc_9, rcs, fvs, rf_s, rf_n, isI_i, isL_l, isR_r, isR_n, isR_q, ct_i, ct_l, ct_r, ct_n, ct_q, tFs, tCs, tKs, tJs, tSs, e_nf, lgs, ↓reduceIte, true_and, and_true, false_and, and_false, or_true, true_or, false_or, or_false, Nat.reduceAdd, Nat.reduceEqDiff, Nat.reduceDiv, Nat.reduceLT, Nat.reduceLeDiff, Nat.zero_add, reduceCtorEq, Bool.false_eq_true, Option.toList_some, Option.toList_none, List.cons_append, List.nil_append, not_true_eq_false, not_false_eq_true, Nat.sub_zero, dsX6_about, jsX6_about, xcX6_about]
          subst e; simpa [aAbt] using hq
        have h6' : w = 6 → sp_X4_tornBlocks [.ref (sA M x i')] M 0 0 (fun v M' k' n' => G 102 [] (v.toList ++ []) M' k' n') := fun e => by
          refine ⟨_, sR, hB, ?_⟩
          rw [SRep.tornN h5]
          refine e_g2 hG [] 20 ?_
          simp only [e_wp_s, Option.getD_some, Option.isSome_some, Option.isSome_none, xis0, xis1, xis2, xis3, xis4, e_ks, lk_k, lk_c, List.lookup_nil, gt_c, vi_i, k1_n, k1_c, k2_n, k2_c, ar_n, ar_c, pk_n, pk_c, rm_0, rm_1, rm_2, rm_3, rm_4, rm_5, rc_9, rcs, fvs, rf_s, rf_n, isI_i, isL_l, isR_r, isR_n, isR_q, ct_i, ct_l, ct_r, ct_n, ct_q, tFs, tCs, tKs, tJs, tSs, e_nf, lgs, ↓reduceIte, true_and, and_true, false_and, and_false, or_true, true_or, false_or, or_false, Nat.reduceAdd, Nat.reduceEqDiff, Nat.reduceDiv, Nat.reduceLT, Nat.reduceLeDiff, Nat.zero_add, reduceCtorEq, Bool.false_eq_true, Option.toList_some, Option.toList_none, List.cons_append, List.nil_append, not_true_eq_false, not_false_eq_true, Nat.sub_zero, dsX6_about, jsX6_about, xcX6_about]
          subst e; simpa [aAbt] using hq
        refine e_g2 hG [(92, []), (97, []), (102, [])] 40 ?_
        simp only [e_wp_s, Option.getD_some, Option.isSome_some, Option.isSome_none, xis0, xis1, xis2, xis3, xis4, e_ks, lk_k, lk_c, List.lookup_nil, gt_c, vi_i, k1_n, k1_c, k2_n, k2_c, ar_n, ar_c, pk_n, pk_c, rm_0, rm_1, rm_2, rm_3, rm_4, rm_5, rc_9, rcs, fvs, rf_s, rf_n, isI_i, isL_l, isR_r, isR_n, isR_q, ct_i, ct_l, ct_r, ct_n, ct_q, tFs, tCs, tKs, tJs, tSs, e_nf, lgs, ↓reduceIte, true_and, and_true, false_and, and_false, or_true, true_or, false_or, or_false, Nat.reduceAdd, Nat.reduceEqDiff, Nat.reduceDiv, Nat.reduceLT, Nat.reduceLeDiff, Nat.zero_add, reduceCtorEq, Bool.false_eq_true, Option.toList_some, Option.toList_none, List.cons_append, List.nil_append, not_true_eq_false, not_false_eq_true, Nat.sub_zero, dsX6_about, jsX6_about, xcX6_about, k0, kR, h4, s0, sk, sb, ss, sl, ↓sp_X6_seriesAt, e_tw, e_lw, Int.reduceAdd, tis]
        refine ⟨rfl, ?_⟩
        by_cases c4 : w = 4
        · have := h4' c4
          subst c4; simpa using this
        by_cases c5 : w = 5
        · have := h5' c5
          subst c5; simpa using this
        by_cases c6 : w = 6
        · have := h6' c6
          subst c6; simpa using this
        unfold aAbt at hq
        by_cases c0 : w = 0
        · subst c0; simpa using hq
        by_cases c1 : w = 1
        · subst c1; simpa using hq
        by_cases c2 : w = 2
        · subst c2; simpa using hq
        by_cases c3 : w = 3
        · subst c3; simpa using hq
        simpa [c0, c1, c2, c3, c4, c5, c6] using hq
    by_cases c1 : i = -1
    · have c2 : ¬ w = 0 := fun e => c ⟨c1, e⟩
      subst c1
      refine e_g2 hG [(14, [0, 1, 2])] 40 ?_
      simp only [e_wp_s, Option.getD_some, Option.isSome_some, Option.isSome_none, xis0, xis1, xis2, xis3, xis4, e_ks, lk_k, lk_c, List.lookup_nil, gt_c, vi_i, k1_n, k1_c, k2_n, k2_c, ar_n, ar_c, pk_n, pk_c, rm_0, rm_1, rm_2, rm_3, rm_4, rm_5, rc_9, rcs, fvs, rf_s, rf_n, isI_i, isL_l, isR_r, isR_n, isR_q, ct_i, ct_l, ct_r, ct_n, ct_q, tFs, tCs, tKs, tJs, tSs, e_nf, lgs, ↓reduceIte, true_and, and_true, false_and, and_false, or_true, true_or, false_or, or_false, Nat.reduceAdd, Nat.reduceEqDiff, Nat.reduceDiv, Nat.reduceLT, Nat.reduceLeDiff, Nat.zero_add, reduceCtorEq, Bool.false_eq_true, Option.toList_some, Option.toList_none, List.cons_append, List.nil_append, not_true_eq_false, not_false_eq_true, Nat.sub_zero, dsX6_about, jsX6_about, xcX6_about, c2]
      exact main
    · refine e_g2 hG [(14, [0, 1, 2])] 40 ?_
      simp only [e_wp_s, Option.getD_some, Option.isSome_some, Option.isSome_none, xis0, xis1, xis2, xis3, xis4, e_ks, lk_k, lk_c, List.lookup_nil, gt_c, vi_i, k1_n, k1_c, k2_n, k2_c, ar_n, ar_c, pk_n, pk_c, rm_0, rm_1, rm_2, rm_3, rm_4, rm_5, rc_9, rcs, fvs, rf_s, rf_n, isI_i, isL_l, isR_r, isR_n, isR_q, ct_i, ct_l, ct_r, ct_n, ct_q, tFs, tCs, tKs, tJs, tSs, e_nf, lgs, ↓reduceIte, true_and, and_true, false_and, and_false, or_true, true_or, false_or, or_false, Nat.reduceAdd, Nat.reduceEqDiff, Nat.reduceDiv, Nat.reduceLT, Nat.reduceLeDiff, Nat.zero_add, reduceCtorEq, Bool.false_eq_true, Option.toList_some, Option.toList_none, List.cons_append, List.nil_append, not_true_eq_false, not_false_eq_true, Nat.sub_zero, dsX6_about, jsX6_about, xcX6_about, c1]
      exact main
theorem SRep.rlab {O : GH} {M : HM} {s j : Nat} {v : Int32} {kd : Int32} {lab : Nat → Int32} {sp : List SPN} {bk : List BLK} {lt : List PT} (h : SRep O M s kd lab sp bk lt) : SRep O (tI M (lb M s) j v) s kd (fun k => if k = j then v else lab k) sp bk lt ∧ Fr (Ss s) O O M (tI M (lb M s) j v) := by
  obtain ⟨⟨⟨k0, ⟨a1, a2, a3⟩, ⟨b1, b2, b3⟩, ⟨c1, c2, c3⟩, ⟨d1, d2, d3⟩, ⟨z1, z2, z3⟩⟩, ⟨o0, o1, o2, o3, o4, o5, o6⟩⟩, ⟨hk, hl⟩, ⟨hs1, hs2⟩, ⟨hb1, hb2⟩, ⟨ht1, ht2, ht3⟩⟩ := id h
  have hX : ArX M (tI M (lb M s) j v) (lb M s) (lb M s) := ArX.rf.tI (Or.inl rfl)
  obtain ⟨g1, ⟨q1, q2, q3, q4, q5⟩, g2⟩ := h.arx hX o1 o1 (by rw [a2]; decide) (by rw [a2]; decide)
  have n4 : ¬ ltt M s = lb M s := fun e => o6 e.symm
  refine ⟨⟨g1, ⟨hk, fun i hi => ?_⟩, ⟨hs1, ?_⟩, ⟨hb1, ?_⟩, ⟨ht1, ht2, ?_⟩⟩, hX.fr (by rw [o1]) (by rw [o1])⟩
  · rw [q1]
    simp only [haI, true_and]
    by_cases c : i = j
    · rw [if_pos c, if_pos c]
    · rw [if_neg c, if_neg c]; exact hl i hi
  · exact hs2
  · exact hb2.mono (fun _ _ _ _ ⟨l, f, q⟩ => ⟨l, f, g2 _ _ _ q⟩) (fun _ _ _ _ _ q => g2 _ _ _ q)
  · rw [q4, q5]
    refine (rdf_ext _ _ _ (fun i hi => ?_)).trans ht3
    simp only [haI, haL, n4, false_and, if_false]
def labO (S : SER) (i : Int32) : Int32 := if ¬ i < 0 ∧ i < 8 then S.2.1 i.toNatClampNeg else -1
theorem SRep.la {O : GH} {M : HM} {s : Nat} {S : SER} (h : SRp O M s S) (i : Int32) : labF M s i = labO S i := by
  unfold labF labO
  by_cases c : ¬ i < 0 ∧ i < 8
  · rw [if_pos c, if_pos c]
    obtain ⟨j, hj, rfl⟩ := nI_of c.1
    rw [nI_clamp hj]
    exact h.2.1.2 j ((nI_ltI hj (b := 8) (by decide)).mp c.2)
  · rw [if_neg c, if_neg c]
def setLab (S : SER) (i v : Int32) : SER := (S.1, (fun k => if k = i.toNatClampNeg then v else S.2.1 k), S.2.2)
def aLabel (L : List SER) (i key v : Int32) : Int32 × List SER := match ser L i with
  | none => (-1, L)
  | some S => if (¬ key < 0 ∧ key < 8) ∧ (v = -1 ∨ (¬ v < 0 ∧ v < 16)) then (labO S key + 1, L.set i.toNatClampNeg (setLab S key v)) else (-2, L)
def csX6_label : CS := (cs_c 0 38 2 6 sp_X6_seriesAt (cs_c 2 42 1 9 sp_X6_isKey (cs_c 2 46 1 9 sp_X6_isLabel (cs_c 0 49 2 4 sp_X4_labelOf (cs_c 0 53 3 4 sp_X4_setLabel cs_0)))))
theorem csoX6_label : ∀ op x na cl sp, csX6_label op x = some (na, cl, sp) → CallOK 6 2 42 op x na cl sp := (cs_c_ok (caX6_label_38 okX6_seriesAt) (cs_c_ok (caX6_label_42 okX6_isKey) (cs_c_ok (caX6_label_46 okX6_isLabel) (cs_c_ok (caX6_label_49 okX4_labelOf) (cs_c_ok (caX6_label_53 okX4_setLabel) cs_0_ok)))))
theorem xcX6_label : (∀ (Q : QT) (G : GT) (pc : Nat) (L : LV) (a0 a1 : Value) (r : List Value) (M : HM) (k n : Nat), ex_i 6 6 1 false csX6_label Q G (.invokevirtual 38) pc L (a1 :: a0 :: r) M k n = (e_rm r ∧ e_rc M 6 [a0, a1] ∧ sp_X6_seriesAt [a0, a1] M k n (fun v M' k' n' => G (pc + 3) L (v.toList ++ r) M' k' n'))) ∧ (∀ (Q : QT) (G : GT) (pc : Nat) (L : LV) (a0 : Value) (r : List Value) (M : HM) (k n : Nat), ex_i 6 6 1 false csX6_label Q G (.invokestatic 42) pc L (a0 :: r) M k n = (e_rm r ∧ e_rc M 9 [a0] ∧ sp_X6_isKey [a0] M k n (fun v M' k' n' => G (pc + 3) L (v.toList ++ r) M' k' n'))) ∧ (∀ (Q : QT) (G : GT) (pc : Nat) (L : LV) (a0 : Value) (r : List Value) (M : HM) (k n : Nat), ex_i 6 6 1 false csX6_label Q G (.invokestatic 46) pc L (a0 :: r) M k n = (e_rm r ∧ e_rc M 9 [a0] ∧ sp_X6_isLabel [a0] M k n (fun v M' k' n' => G (pc + 3) L (v.toList ++ r) M' k' n'))) ∧ (∀ (Q : QT) (G : GT) (pc : Nat) (L : LV) (a0 a1 : Value) (r : List Value) (M : HM) (k n : Nat), ex_i 6 6 1 false csX6_label Q G (.invokevirtual 49) pc L (a1 :: a0 :: r) M k n = (e_rm r ∧ e_rc M 4 [a0, a1] ∧ sp_X4_labelOf [a0, a1] M k n (fun v M' k' n' => G (pc + 3) L (v.toList ++ r) M' k' n'))) ∧ (∀ (Q : QT) (G : GT) (pc : Nat) (L : LV) (a0 a1 a2 : Value) (r : List Value) (M : HM) (k n : Nat), ex_i 6 6 1 false csX6_label Q G (.invokevirtual 53) pc L (a2 :: a1 :: a0 :: r) M k n = (e_rm r ∧ e_rc M 4 [a0, a1, a2] ∧ sp_X4_setLabel [a0, a1, a2] M k n (fun v M' k' n' => G (pc + 3) L (v.toList ++ r) M' k' n'))) := ⟨(fun _ _ _ _ _ _ _ _ _ _ => xv0_2 rfl), (fun _ _ _ _ _ _ _ _ _ => xv2_1 rfl), (fun _ _ _ _ _ _ _ _ _ => xv2_1 rfl), (fun _ _ _ _ _ _ _ _ _ _ => xv0_2 rfl), (fun _ _ _ _ _ _ _ _ _ _ _ => xv0_3 rfl)⟩
def sp_X6_label : SP := fun as M k n Q => match as with
  | [.ref x, .int i, .int key, .int v] => ∃ O L sc ct tr m, NRep O M x L sc ct tr ∧ mK M m = 8 ∧ ∀ O' M', NRep O' M' x (aLabel L i key v).2 sc ct tr → Fr (SN m) O O' M M' → Q (some (.int (aLabel L i key v).1)) M' k n
  | _ => False
theorem okX6_label : OkX6_label sp_X6_label := by
  refine inX6_label csoX6_label ?_
  intro as M k n Q hsp
  unfold sp_X6_label at hsp
  split at hsp
  rotate_left
  · exact hsp.elim
  rename_i x i key v
  obtain ⟨O, L, sc, ct, tr, m, hN, hm, hq⟩ := hsp
  have k0 := hN.1.1.1
  have kR := hN.1.1
  refine ⟨0, 0, Nat.zero_le _, Nat.zero_le _, Nat.le_of_ble_eq_true rfl, fun G hG => ?_⟩
  unfold aLabel at hq
  rcases hN.sa i with ⟨h1, h2⟩ | ⟨i', S, h1, rfl, h3, h4, h5, h6⟩
  · rw [h1] at hq
    refine e_g2 hG [] 40 ?_
    simp only [e_wp_s, Option.getD_some, Option.isSome_some, Option.isSome_none, xis0, xis1, xis2, xis3, xis4, e_ks, lk_k, lk_c, List.lookup_nil, gt_c, vi_i, k1_n, k1_c, k2_n, k2_c, ar_n, ar_c, pk_n, pk_c, rm_0, rm_1, rm_2, rm_3, rm_4, rm_5, rc_9, rcs, fvs, rf_s, rf_n, isI_i, isL_l, isR_r, isR_n, isR_q, ct_i, ct_l, ct_r, ct_n, ct_q, tFs, tCs, tKs, tJs, tSs, e_nf, lgs, ↓reduceIte, true_and, and_true, false_and, and_false, or_true, true_or, false_or, or_false, Nat.reduceAdd, Nat.reduceEqDiff, Nat.reduceDiv, Nat.reduceLT, Nat.reduceLeDiff, Nat.zero_add, reduceCtorEq, Bool.false_eq_true, Option.toList_some, Option.toList_none, List.cons_append, List.nil_append, not_true_eq_false, not_false_eq_true, Nat.sub_zero, dsX6_label, jsX6_label, xcX6_label, k0, kR, h2, ↓sp_X6_seriesAt]
    exact hq O M hN Fr.rf
  · simp only [h1] at hq
    have s0 := h5.1.1.1
    have sR := h5.1.1
    by_cases c1 : ¬ key < 0 ∧ key < 8
    · have hla := SRep.la h5 key
      have fin : v = -1 ∨ (¬ v < 0 ∧ v < 16) → G 36 [(0, .ref x), (2, .int key), (3, .int v), (4, .ref (sA M x i'))] [] M 0 0 := fun c2 => by
        simp only [c1, c2, not_false_eq_true, and_self, if_true, nI_clamp (show i' < 2 ^ 31 by omega)] at hq
        obtain ⟨r1, r2⟩ := SRep.rlab (j := key.toNatClampNeg) (v := v) h5
        refine e_g2 hG [] 40 ?_
        simp only [e_wp_s, Option.getD_some, Option.isSome_some, Option.isSome_none, xis0, xis1, xis2, xis3, xis4, e_ks, lk_k, lk_c, List.lookup_nil, gt_c, vi_i, k1_n, k1_c, k2_n, k2_c, ar_n, ar_c, pk_n, pk_c, rm_0, rm_1, rm_2, rm_3, rm_4, rm_5, rc_9, rcs, fvs, rf_s, rf_n, isI_i, isL_l, isR_r, isR_n, isR_q, ct_i, ct_l, ct_r, ct_n, ct_q, tFs, tCs, tKs, tJs, tSs, e_nf, lgs, ↓reduceIte, true_and, and_true, false_and, and_false, or_true, true_or, false_or, or_false, Nat.reduceAdd, Nat.reduceEqDiff, Nat.reduceDiv, Nat.reduceLT, Nat.reduceLeDiff, Nat.zero_add, reduceCtorEq, Bool.false_eq_true, Option.toList_some, Option.toList_none, List.cons_append, List.nil_append, not_true_eq_false, not_false_eq_true, Nat.sub_zero, dsX6_label, jsX6_label, xcX6_label, s0, sR, c1, hla, ↓sp_X4_labelOf, ↓sp_X4_setLabel]
        exact hq O _ (hN.mut h3 r2 r1) (fr_SN r2 hm (by rw [s0]; decide))
      by_cases c2 : v = -1
      · have := fin (Or.inl c2)
        refine e_g2 hG [(36, [0, 2, 3, 4])] 40 ?_
        subst c2
        simp only [e_wp_s, Option.getD_some, Option.isSome_some, Option.isSome_none, xis0, xis1, xis2, xis3, xis4, e_ks, lk_k, lk_c, List.lookup_nil, gt_c, vi_i, k1_n, k1_c, k2_n, k2_c, ar_n, ar_c, pk_n, pk_c, rm_0, rm_1, rm_2, rm_3, rm_4, rm_5, rc_9, rcs, fvs, rf_s, rf_n, isI_i, isL_l, isR_r, isR_n, isR_q, ct_i, ct_l, ct_r, ct_n, ct_q, tFs, tCs, tKs, tJs, tSs, e_nf, lgs, ↓reduceIte, true_and, and_true, false_and, and_false, or_true, true_or, false_or, or_false, Nat.reduceAdd, Nat.reduceEqDiff, Nat.reduceDiv, Nat.reduceLT, Nat.reduceLeDiff, Nat.zero_add, reduceCtorEq, Bool.false_eq_true, Option.toList_some, Option.toList_none, List.cons_append, List.nil_append, not_true_eq_false, not_false_eq_true, Nat.sub_zero, dsX6_label, jsX6_label, xcX6_label, k0, kR, h4, c1, i10, ↓sp_X6_seriesAt, ↓sp_X6_isKey]
        exact this
      · by_cases c3 : ¬ v < 0 ∧ v < 16
        · refine e_g2 hG [(36, [0, 2, 3, 4])] 40 ?_
          simp only [e_wp_s, Option.getD_some, Option.isSome_some, Option.isSome_none, xis0, xis1, xis2, xis3, xis4, e_ks, lk_k, lk_c, List.lookup_nil, gt_c, vi_i, k1_n, k1_c, k2_n, k2_c, ar_n, ar_c, pk_n, pk_c, rm_0, rm_1, rm_2, rm_3, rm_4, rm_5, rc_9, rcs, fvs, rf_s, rf_n, isI_i, isL_l, isR_r, isR_n, isR_q, ct_i, ct_l, ct_r, ct_n, ct_q, tFs, tCs, tKs, tJs, tSs, e_nf, lgs, ↓reduceIte, true_and, and_true, false_and, and_false, or_true, true_or, false_or, or_false, Nat.reduceAdd, Nat.reduceEqDiff, Nat.reduceDiv, Nat.reduceLT, Nat.reduceLeDiff, Nat.zero_add, reduceCtorEq, Bool.false_eq_true, Option.toList_some, Option.toList_none, List.cons_append, List.nil_append, not_true_eq_false, not_false_eq_true, Nat.sub_zero, dsX6_label, jsX6_label, xcX6_label, k0, kR, h4, c1, c2, c3, i10, ↓sp_X6_seriesAt, ↓sp_X6_isKey, ↓sp_X6_isLabel]
          exact fin (Or.inr c3)
        · rw [if_neg (fun z => z.2.elim c2 c3)] at hq
          refine e_g2 hG [] 40 ?_
          simp only [e_wp_s, Option.getD_some, Option.isSome_some, Option.isSome_none, xis0, xis1, xis2, xis3, xis4, e_ks, lk_k, lk_c, List.lookup_nil, gt_c, vi_i, k1_n, k1_c, k2_n, k2_c, ar_n, ar_c, pk_n, pk_c, rm_0, rm_1, rm_2, rm_3, rm_4, rm_5, rc_9, rcs, fvs, rf_s, rf_n, isI_i, isL_l, isR_r, isR_n, isR_q, ct_i, ct_l, ct_r, ct_n, ct_q, tFs, tCs, tKs, tJs, tSs, e_nf, lgs, ↓reduceIte, true_and, and_true, false_and, and_false, or_true, true_or, false_or, or_false, Nat.reduceAdd, Nat.reduceEqDiff, Nat.reduceDiv, Nat.reduceLT, Nat.reduceLeDiff, Nat.zero_add, reduceCtorEq, Bool.false_eq_true, Option.toList_some, Option.toList_none, List.cons_append, List.nil_append, not_true_eq_false, not_false_eq_true, Nat.sub_zero, dsX6_label, jsX6_label, xcX6_label, k0, kR, h4, c1, c2, c3, i10, ↓sp_X6_seriesAt, ↓sp_X6_isKey, ↓sp_X6_isLabel]
          exact hq O M hN Fr.rf
    · rw [if_neg (fun z => c1 z.1)] at hq
      refine e_g2 hG [] 40 ?_
      simp only [e_wp_s, Option.getD_some, Option.isSome_some, Option.isSome_none, xis0, xis1, xis2, xis3, xis4, e_ks, lk_k, lk_c, List.lookup_nil, gt_c, vi_i, k1_n, k1_c, k2_n, k2_c, ar_n, ar_c, pk_n, pk_c, rm_0, rm_1, rm_2, rm_3, rm_4, rm_5, rc_9, rcs, fvs, rf_s, rf_n, isI_i, isL_l, isR_r, isR_n, isR_q, ct_i, ct_l, ct_r, ct_n, ct_q, tFs, tCs, tKs, tJs, tSs, e_nf, lgs, ↓reduceIte, true_and, and_true, false_and, and_false, or_true, true_or, false_or, or_false, Nat.reduceAdd, Nat.reduceEqDiff, Nat.reduceDiv, Nat.reduceLT, Nat.reduceLeDiff, Nat.zero_add, reduceCtorEq, Bool.false_eq_true, Option.toList_some, Option.toList_none, List.cons_append, List.nil_append, not_true_eq_false, not_false_eq_true, Nat.sub_zero, dsX6_label, jsX6_label, xcX6_label, k0, kR, h4, c1, i10, ↓sp_X6_seriesAt, ↓sp_X6_isKey]
      exact hq O M hN Fr.rf
def bear (S : SER) (key v : Int32) : Bool := decide (¬ v < 0 ∧ v < 16) && decide (labO S key = v)
def mtB (key v ot w : Int32) (S : SER) : Bool := bear S key v && (decide (ot < 0) || bear S ot w)
def mtN (f : SER → Bool) (i : Int32) : List SER → Nat → Nat → Int32
  | [], _, _ => -1
  | S :: r, n, seen => if f S then (if nI seen = i then nI n else mtN f i r (n + 1) (seen + 1)) else mtN f i r (n + 1) seen
def csX6_match : CS := (cs_c 0 38 2 6 sp_X6_seriesAt (cs_c 0 57 3 4 sp_X4_bears cs_0))
theorem csoX6_match : ∀ op x na cl sp, csX6_match op x = some (na, cl, sp) → CallOK 6 3 63 op x na cl sp := (cs_c_ok (caX6_match_38 okX6_seriesAt) (cs_c_ok (caX6_match_57 okX4_bears) cs_0_ok))
theorem xcX6_match : (∀ (Q : QT) (G : GT) (pc : Nat) (L : LV) (a0 a1 : Value) (r : List Value) (M : HM) (k n : Nat), ex_i 6 9 1 false csX6_match Q G (.invokevirtual 38) pc L (a1 :: a0 :: r) M k n = (e_rm r ∧ e_rc M 6 [a0, a1] ∧ sp_X6_seriesAt [a0, a1] M k n (fun v M' k' n' => G (pc + 3) L (v.toList ++ r) M' k' n'))) ∧ (∀ (Q : QT) (G : GT) (pc : Nat) (L : LV) (a0 a1 a2 : Value) (r : List Value) (M : HM) (k n : Nat), ex_i 6 9 1 false csX6_match Q G (.invokevirtual 57) pc L (a2 :: a1 :: a0 :: r) M k n = (e_rm r ∧ e_rc M 4 [a0, a1, a2] ∧ sp_X4_bears [a0, a1, a2] M k n (fun v M' k' n' => G (pc + 3) L (v.toList ++ r) M' k' n'))) := ⟨(fun _ _ _ _ _ _ _ _ _ _ => xv0_2 rfl), (fun _ _ _ _ _ _ _ _ _ _ _ => xv0_3 rfl)⟩
def sp_X6_match : SP := fun as M k n Q => match as with
  | [.ref x, .int key, .int v, .int ot, .int w, .int i] => ∃ O L sc ct tr, NRep O M x L sc ct tr ∧ Q (some (.int (mtN (mtB key v ot w) i L 0 0))) M k n
  | _ => False
theorem okX6_match : OkX6_match sp_X6_match := by
  refine inX6_match csoX6_match ?_
  intro as M k n Q hsp
  unfold sp_X6_match at hsp
  split at hsp
  rotate_left
  · exact hsp.elim
  rename_i x key v ot w i
  obtain ⟨O, L, sc, ct, tr, hN, hq⟩ := hsp
  have k0 := hN.1.1.1
  have kR := hN.1.1
  have kc := hN.2.1.1
  have h8 := hN.2.1.2
  refine ⟨0, 0, Nat.zero_le _, Nat.zero_le _, Nat.le_of_ble_eq_true rfl, fun G hG => ?_⟩
  have loop : ∀ d j c, j + d = L.length → mtN (mtB key v ot w) i (L.drop j) j c = mtN (mtB key v ot w) i L 0 0 → G 6 [(0, .ref x), (1, .int key), (2, .int v), (3, .int ot), (4, .int w), (5, .int i), (6, .int (nI c)), (7, .int (nI j))] [] M 0 0 := by
    intro d
    induction d with
    | zero =>
      intro j c hj he
      have e1 : ¬ nI j < nI L.length := nI_nlt (by omega) (by omega)
      rw [List.drop_eq_nil_of_le (by omega), mtN] at he
      refine e_g2 hG [] 40 ?_
      simp only [e_wp_s, Option.getD_some, Option.isSome_some, Option.isSome_none, xis0, xis1, xis2, xis3, xis4, e_ks, lk_k, lk_c, List.lookup_nil, gt_c, vi_i, k1_n, k1_c, k2_n, k2_c, ar_n, ar_c, pk_n, pk_c, rm_0, rm_1, rm_2, rm_3, rm_4, rm_5, rc_9, rcs, fvs, rf_s, rf_n, isI_i, isL_l, isR_r, isR_n, isR_q, ct_i, ct_l, ct_r, ct_n, ct_q, tFs, tCs, tKs, tJs, tSs, e_nf, lgs, ↓reduceIte, true_and, and_true, false_and, and_false, or_true, true_or, false_or, or_false, Nat.reduceAdd, Nat.reduceEqDiff, Nat.reduceDiv, Nat.reduceLT, Nat.reduceLeDiff, Nat.zero_add, reduceCtorEq, Bool.false_eq_true, Option.toList_some, Option.toList_none, List.cons_append, List.nil_append, not_true_eq_false, not_false_eq_true, Nat.sub_zero, dsX6_match, jsX6_match, xcX6_match, k0, kc, e1]
      rw [← he] at hq
      exact hq
    | succ d ih =>
      intro j c hj he
      have e1 : nI j < nI L.length := nI_lt (by omega) (by omega)
      obtain ⟨S, hx⟩ : ∃ S, L[j]? = some S := ⟨_, List.getElem?_eq_getElem (by omega)⟩
      have hd : L.drop j = S :: L.drop (j + 1) := by
        have hi := (List.getElem?_eq_some_iff.mp hx).1
        rw [List.drop_eq_getElem_cons hi]
        congr 1
        exact (List.getElem?_eq_some_iff.mp hx).2
      rw [hd, mtN] at he
      rcases hN.sa (nI j) with ⟨h1, h2⟩ | ⟨i', S', h1, h1', h3, h4, h5, h6⟩
      · unfold ser at h1
        rw [if_neg (nI_pos (by omega)), nI_clamp (by omega), hx] at h1
        cases h1
      · have e2 : i' = j := ((nI_eq (by omega) (by omega)).mp h1').symm
        subst e2
        have e3 : S' = S := Option.some.inj (h3.symm.trans hx)
        subst e3
        have s0 := h5.1.1.1
        have sR := h5.1.1
        have l1 := SRep.la h5 key
        have l2 := SRep.la h5 ot
        have hit : mtB key v ot w S' = true → G 56 [(0, .ref x), (1, .int key), (2, .int v), (3, .int ot), (4, .int w), (5, .int i), (6, .int (nI c)), (7, .int (nI i'))] [] M 0 0 := fun hm => by
          rw [if_pos hm] at he
          by_cases c5 : nI c = i
          · rw [if_pos c5] at he
            refine e_g2 hG [] 40 ?_
            simp only [e_wp_s, Option.getD_some, Option.isSome_some, Option.isSome_none, xis0, xis1, xis2, xis3, xis4, e_ks, lk_k, lk_c, List.lookup_nil, gt_c, vi_i, k1_n, k1_c, k2_n, k2_c, ar_n, ar_c, pk_n, pk_c, rm_0, rm_1, rm_2, rm_3, rm_4, rm_5, rc_9, rcs, fvs, rf_s, rf_n, isI_i, isL_l, isR_r, isR_n, isR_q, ct_i, ct_l, ct_r, ct_n, ct_q, tFs, tCs, tKs, tJs, tSs, e_nf, lgs, ↓reduceIte, true_and, and_true, false_and, and_false, or_true, true_or, false_or, or_false, Nat.reduceAdd, Nat.reduceEqDiff, Nat.reduceDiv, Nat.reduceLT, Nat.reduceLeDiff, Nat.zero_add, reduceCtorEq, Bool.false_eq_true, Option.toList_some, Option.toList_none, List.cons_append, List.nil_append, not_true_eq_false, not_false_eq_true, Nat.sub_zero, dsX6_match, jsX6_match, xcX6_match, c5]
            rw [← he] at hq
            exact hq
          · rw [if_neg c5] at he
            refine e_g2 hG [(6, [0, 1, 2, 3, 4, 5, 6, 7])] 40 ?_
            simp only [e_wp_s, Option.getD_some, Option.isSome_some, Option.isSome_none, xis0, xis1, xis2, xis3, xis4, e_ks, lk_k, lk_c, List.lookup_nil, gt_c, vi_i, k1_n, k1_c, k2_n, k2_c, ar_n, ar_c, pk_n, pk_c, rm_0, rm_1, rm_2, rm_3, rm_4, rm_5, rc_9, rcs, fvs, rf_s, rf_n, isI_i, isL_l, isR_r, isR_n, isR_q, ct_i, ct_l, ct_r, ct_n, ct_q, tFs, tCs, tKs, tJs, tSs, e_nf, lgs, ↓reduceIte, true_and, and_true, false_and, and_false, or_true, true_or, false_or, or_false, Nat.reduceAdd, Nat.reduceEqDiff, Nat.reduceDiv, Nat.reduceLT, Nat.reduceLeDiff, Nat.zero_add, reduceCtorEq, Bool.false_eq_true, Option.toList_some, Option.toList_none, List.cons_append, List.nil_append, not_true_eq_false, not_false_eq_true, Nat.sub_zero, dsX6_match, jsX6_match, xcX6_match, c5, nI_1]
            exact ih (i' + 1) (c + 1) (by omega) he
        have miss : mtB key v ot w S' = false → G 69 [(0, .ref x), (1, .int key), (2, .int v), (3, .int ot), (4, .int w), (5, .int i), (6, .int (nI c)), (7, .int (nI i'))] [] M 0 0 := fun hm => by
          rw [hm, if_neg (by decide)] at he
          refine e_g2 hG [(6, [0, 1, 2, 3, 4, 5, 6, 7])] 40 ?_
          simp only [e_wp_s, Option.getD_some, Option.isSome_some, Option.isSome_none, xis0, xis1, xis2, xis3, xis4, e_ks, lk_k, lk_c, List.lookup_nil, gt_c, vi_i, k1_n, k1_c, k2_n, k2_c, ar_n, ar_c, pk_n, pk_c, rm_0, rm_1, rm_2, rm_3, rm_4, rm_5, rc_9, rcs, fvs, rf_s, rf_n, isI_i, isL_l, isR_r, isR_n, isR_q, ct_i, ct_l, ct_r, ct_n, ct_q, tFs, tCs, tKs, tJs, tSs, e_nf, lgs, ↓reduceIte, true_and, and_true, false_and, and_false, or_true, true_or, false_or, or_false, Nat.reduceAdd, Nat.reduceEqDiff, Nat.reduceDiv, Nat.reduceLT, Nat.reduceLeDiff, Nat.zero_add, reduceCtorEq, Bool.false_eq_true, Option.toList_some, Option.toList_none, List.cons_append, List.nil_append, not_true_eq_false, not_false_eq_true, Nat.sub_zero, dsX6_match, jsX6_match, xcX6_match, nI_1]
          exact ih (i' + 1) c (by omega) he
        have hcut : ∀ (P : Prop), P → P := fun _ h => h
        by_cases c1 : (¬ v < 0 ∧ v < 16) ∧ labO S' key = v
        · have b1 : bear S' key v = true := by unfold bear; simp [c1.1.1, c1.1.2, c1.2]
          by_cases c2 : ot < 0
          · have hm : mtB key v ot w S' = true := by unfold mtB; simp [b1, c2]
            refine e_g2 hG [(56, [0, 1, 2, 3, 4, 5, 6, 7])] 60 ?_
            simp only [e_wp_s, Option.getD_some, Option.isSome_some, Option.isSome_none, xis0, xis1, xis2, xis3, xis4, e_ks, lk_k, lk_c, List.lookup_nil, gt_c, vi_i, k1_n, k1_c, k2_n, k2_c, ar_n, ar_c, pk_n, pk_c, rm_0, rm_1, rm_2, rm_3, rm_4, rm_5, rc_9, rcs, fvs, rf_s, rf_n, isI_i, isL_l, isR_r, isR_n, isR_q, ct_i, ct_l, ct_r, ct_n, ct_q, tFs, tCs, tKs, tJs, tSs, e_nf, lgs, ↓reduceIte, true_and, and_true, false_and, and_false, or_true, true_or, false_or, or_false, Nat.reduceAdd, Nat.reduceEqDiff, Nat.reduceDiv, Nat.reduceLT, Nat.reduceLeDiff, Nat.zero_add, reduceCtorEq, Bool.false_eq_true, Option.toList_some, Option.toList_none, List.cons_append, List.nil_append, not_true_eq_false, not_false_eq_true, Nat.sub_zero, dsX6_match, jsX6_match, xcX6_match, k0, kR, kc, e1, h4, s0, sR, l1, c1, c2, i10, ↓sp_X6_seriesAt, ↓sp_X4_bears]
            exact hit hm
          · by_cases c3 : (¬ w < 0 ∧ w < 16) ∧ labO S' ot = w
            · have b2 : bear S' ot w = true := by unfold bear; simp [c3.1.1, c3.1.2, c3.2]
              have hm : mtB key v ot w S' = true := by unfold mtB; simp [b1, b2]
              refine e_g2 hG [(56, [0, 1, 2, 3, 4, 5, 6, 7])] 60 ?_
              simp only [e_wp_s, Option.getD_some, Option.isSome_some, Option.isSome_none, xis0, xis1, xis2, xis3, xis4, e_ks, lk_k, lk_c, List.lookup_nil, gt_c, vi_i, k1_n, k1_c, k2_n, k2_c, ar_n, ar_c, pk_n, pk_c, rm_0, rm_1, rm_2, rm_3, rm_4, rm_5, rc_9, rcs, fvs, rf_s, rf_n, isI_i, isL_l, isR_r, isR_n, isR_q, ct_i, ct_l, ct_r, ct_n, ct_q, tFs, tCs, tKs, tJs, tSs, e_nf, lgs, ↓reduceIte, true_and, and_true, false_and, and_false, or_true, true_or, false_or, or_false, Nat.reduceAdd, Nat.reduceEqDiff, Nat.reduceDiv, Nat.reduceLT, Nat.reduceLeDiff, Nat.zero_add, reduceCtorEq, Bool.false_eq_true, Option.toList_some, Option.toList_none, List.cons_append, List.nil_append, not_true_eq_false, not_false_eq_true, Nat.sub_zero, dsX6_match, jsX6_match, xcX6_match, k0, kR, kc, e1, h4, s0, sR, l1, l2, c1, c2, c3, i10, ↓sp_X6_seriesAt, ↓sp_X4_bears]
              exact hit hm
            · have b2 : bear S' ot w = false := by
                unfold bear
                rw [Bool.and_eq_false_iff]
                rcases Decidable.not_and_iff_not_or_not.mp c3 with z | z
                · exact Or.inl (decide_eq_false z)
                · exact Or.inr (decide_eq_false z)
              have hm : mtB key v ot w S' = false := by unfold mtB; simp [b2, c2]
              refine e_g2 hG [(69, [0, 1, 2, 3, 4, 5, 6, 7])] 60 ?_
              simp only [e_wp_s, Option.getD_some, Option.isSome_some, Option.isSome_none, xis0, xis1, xis2, xis3, xis4, e_ks, lk_k, lk_c, List.lookup_nil, gt_c, vi_i, k1_n, k1_c, k2_n, k2_c, ar_n, ar_c, pk_n, pk_c, rm_0, rm_1, rm_2, rm_3, rm_4, rm_5, rc_9, rcs, fvs, rf_s, rf_n, isI_i, isL_l, isR_r, isR_n, isR_q, ct_i, ct_l, ct_r, ct_n, ct_q, tFs, tCs, tKs, tJs, tSs, e_nf, lgs, ↓reduceIte, true_and, and_true, false_and, and_false, or_true, true_or, false_or, or_false, Nat.reduceAdd, Nat.reduceEqDiff, Nat.reduceDiv, Nat.reduceLT, Nat.reduceLeDiff, Nat.zero_add, reduceCtorEq, Bool.false_eq_true, Option.toList_some, Option.toList_none, List.cons_append, List.nil_append, not_true_eq_false, not_false_eq_true, Nat.sub_zero, dsX6_match, jsX6_match, xcX6_match, k0, kR, kc, e1, h4, s0, sR, l1, l2, c1, c2, c3, i10, ↓sp_X6_seriesAt, ↓sp_X4_bears]
              exact miss hm
        · have b1 : bear S' key v = false := by
            unfold bear
            rw [Bool.and_eq_false_iff]
            rcases Decidable.not_and_iff_not_or_not.mp c1 with z | z
            · exact Or.inl (decide_eq_false z)
            · exact Or.inr (decide_eq_false z)
          have hm : mtB key v ot w S' = false := by unfold mtB; simp [b1]
          refine e_g2 hG [(69, [0, 1, 2, 3, 4, 5, 6, 7])] 60 ?_
          simp only [e_wp_s, Option.getD_some, Option.isSome_some, Option.isSome_none, xis0, xis1, xis2, xis3, xis4, e_ks, lk_k, lk_c, List.lookup_nil, gt_c, vi_i, k1_n, k1_c, k2_n, k2_c, ar_n, ar_c, pk_n, pk_c, rm_0, rm_1, rm_2, rm_3, rm_4, rm_5, rc_9, rcs, fvs, rf_s, rf_n, isI_i, isL_l, isR_r, isR_n, isR_q, ct_i, ct_l, ct_r, ct_n, ct_q, tFs, tCs, tKs, tJs, tSs, e_nf, lgs, ↓reduceIte, true_and, and_true, false_and, and_false, or_true, true_or, false_or, or_false, Nat.reduceAdd, Nat.reduceEqDiff, Nat.reduceDiv, Nat.reduceLT, Nat.reduceLeDiff, Nat.zero_add, reduceCtorEq, Bool.false_eq_true, Option.toList_some, Option.toList_none, List.cons_append, List.nil_append, not_true_eq_false, not_false_eq_true, Nat.sub_zero, dsX6_match, jsX6_match, xcX6_match, k0, kR, kc, e1, h4, s0, sR, l1, c1, i10, ↓sp_X6_seriesAt, ↓sp_X4_bears]
          exact miss hm
  refine e_g2 hG [(6, [0, 1, 2, 3, 4, 5, 6, 7])] 40 ?_
  simp only [e_wp_s, Option.getD_some, Option.isSome_some, Option.isSome_none, xis0, xis1, xis2, xis3, xis4, e_ks, lk_k, lk_c, List.lookup_nil, gt_c, vi_i, k1_n, k1_c, k2_n, k2_c, ar_n, ar_c, pk_n, pk_c, rm_0, rm_1, rm_2, rm_3, rm_4, rm_5, rc_9, rcs, fvs, rf_s, rf_n, isI_i, isL_l, isR_r, isR_n, isR_q, ct_i, ct_l, ct_r, ct_n, ct_q, tFs, tCs, tKs, tJs, tSs, e_nf, lgs, ↓reduceIte, true_and, and_true, false_and, and_false, or_true, true_or, false_or, or_false, Nat.reduceAdd, Nat.reduceEqDiff, Nat.reduceDiv, Nat.reduceLT, Nat.reduceLeDiff, Nat.zero_add, reduceCtorEq, Bool.false_eq_true, Option.toList_some, Option.toList_none, List.cons_append, List.nil_append, not_true_eq_false, not_false_eq_true, Nat.sub_zero, dsX6_match, jsX6_match, xcX6_match]
  exact loop L.length 0 0 (by omega) rfl
