/-! the river: series, put, fill, drop -/
def setBL (S : SER) (r : List BLK × List PT) : SER := (S.1, S.2.1, S.2.2.1, r.1, r.2)
def aPut (L : List SER) (i t : Int32) (v : Int64) : Int32 × List SER := match ser L i with
  | none => (-1, L)
  | some S => ((plc S.1 S.2.2.1 S.2.2.2.1 S.2.2.2.2 (t, v)).1, L.set i.toNatClampNeg (setBL S (plc S.1 S.2.2.1 S.2.2.2.1 S.2.2.2.2 (t, v)).2))
def csX6_put : CS := (cs_c 0 38 2 6 sp_X6_seriesAt (cs_c 0 61 3 4 sp_X4_place cs_0))
theorem csoX6_put : ∀ op x na cl sp, csX6_put op x = some (na, cl, sp) → CallOK 6 6 140 op x na cl sp := (cs_c_ok (caX6_put_38 okX6_seriesAt) (cs_c_ok (caX6_put_61 okX4_place) cs_0_ok))
theorem xcX6_put : (∀ (Q : QT) (G : GT) (pc : Nat) (L : LV) (a0 a1 : Value) (r : List Value) (M : HM) (k n : Nat), ex_i 6 6 1 false csX6_put Q G (.invokevirtual 38) pc L (a1 :: a0 :: r) M k n = (e_rm r ∧ e_rc M 6 [a0, a1] ∧ sp_X6_seriesAt [a0, a1] M k n (fun v M' k' n' => G (pc + 3) L (v.toList ++ r) M' k' n'))) ∧ (∀ (Q : QT) (G : GT) (pc : Nat) (L : LV) (a0 a1 a2 : Value) (r : List Value) (M : HM) (k n : Nat), ex_i 6 6 1 false csX6_put Q G (.invokevirtual 61) pc L (a2 :: a1 :: a0 :: r) M k n = (e_rm r ∧ e_rc M 4 [a0, a1, a2] ∧ sp_X4_place [a0, a1, a2] M k n (fun v M' k' n' => G (pc + 3) L (v.toList ++ r) M' k' n'))) := ⟨(fun _ _ _ _ _ _ _ _ _ _ => xv0_2 rfl), (fun _ _ _ _ _ _ _ _ _ _ _ => xv0_3 rfl)⟩
def sp_X6_put : SP := fun as M k n Q => match as with
  | [.ref x, .int i, .int t, .long v] => ∃ O L sc ct tr m, NRep O M x L sc ct tr ∧ mK M m = 8 ∧ wf1 L ∧ 2 ≤ k ∧ 240 ≤ n ∧ ∀ O' M', NRep O' M' x (aPut L i t v).2 sc ct tr → Fr (SN m) O O' M M' → Q (some (.int (aPut L i t v).1)) M' (k - 2) (n - 240)
  | _ => False
theorem okX6_put : OkX6_put sp_X6_put := by
  refine inX6_put csoX6_put ?_
  intro as M k n Q hsp
  unfold sp_X6_put at hsp
  split at hsp
  rotate_left
  · exact hsp.elim
  rename_i x i t v
  obtain ⟨O, L, sc, ct, tr, m, hN, hm, hwf, hk, hn, hq⟩ := hsp
  have k0 := hN.1.1.1
  have kR := hN.1.1
  refine ⟨2, 240, hk, hn, Nat.le_of_ble_eq_true rfl, fun G hG => ?_⟩
  unfold aPut at hq
  rcases hN.sa i with ⟨h1, h2⟩ | ⟨i', S, h1, rfl, h3, h4, h5, h6⟩
  · rw [h1] at hq
    refine e_g2 hG [] 40 ?_
    simp only [e_wp_s, Option.getD_some, Option.isSome_some, Option.isSome_none, xis0, xis1, xis2, xis3, xis4, e_ks, lk_k, lk_c, List.lookup_nil, gt_c, vi_i, k1_n, k1_c, k2_n, k2_c, ar_n, ar_c, pk_n, pk_c, rm_0, rm_1, rm_2, rm_3, rm_4, rm_5, rc_9, rcs, fvs, rf_s, rf_n, isI_i, isL_l, isR_r, isR_n, isR_q, ct_i, ct_l, ct_r, ct_n, ct_q, tFs, tCs, tKs, tJs, tSs, e_nf, lgs, ↓reduceIte, true_and, and_true, false_and, and_false, or_true, true_or, false_or, or_false, Nat.reduceAdd, Nat.reduceEqDiff, Nat.reduceDiv, Nat.reduceLT, Nat.reduceLeDiff, Nat.zero_add, reduceCtorEq, Bool.false_eq_true, Option.toList_some, Option.toList_none, List.cons_append, List.nil_append, not_true_eq_false, not_false_eq_true, Nat.sub_zero, dsX6_put, jsX6_put, xcX6_put, k0, kR, h2, ↓sp_X6_seriesAt]
    exact hq O M hN Fr.rf
  · simp only [h1, nI_clamp (show i' < 2 ^ 31 by omega)] at hq
    have s0 := h5.1.1.1
    obtain ⟨w1, w2, w3⟩ := hwf S (List.mem_of_getElem? h3)
    refine e_g2 hG [(21, [])] 40 ?_
    simp only [e_wp_s, Option.getD_some, Option.isSome_some, Option.isSome_none, xis0, xis1, xis2, xis3, xis4, e_ks, lk_k, lk_c, List.lookup_nil, gt_c, vi_i, k1_n, k1_c, k2_n, k2_c, ar_n, ar_c, pk_n, pk_c, rm_0, rm_1, rm_2, rm_3, rm_4, rm_5, rc_9, rcs, fvs, rf_s, rf_n, isI_i, isL_l, isR_r, isR_n, isR_q, ct_i, ct_l, ct_r, ct_n, ct_q, tFs, tCs, tKs, tJs, tSs, e_nf, lgs, ↓reduceIte, true_and, and_true, false_and, and_false, or_true, true_or, false_or, or_false, Nat.reduceAdd, Nat.reduceEqDiff, Nat.reduceDiv, Nat.reduceLT, Nat.reduceLeDiff, Nat.zero_add, reduceCtorEq, Bool.false_eq_true, Option.toList_some, Option.toList_none, List.cons_append, List.nil_append, not_true_eq_false, not_false_eq_true, Nat.sub_zero, dsX6_put, jsX6_put, xcX6_put, k0, kR, h4, s0, ↓sp_X6_seriesAt]
    refine ⟨O, _, _, _, _, _, h5, w1, w2, Nat.le_refl _, Nat.le_refl _, fun O' M' hS' hF => ?_⟩
    refine e_g2 hG [] 40 ?_
    simp only [e_wp_s, Option.getD_some, Option.isSome_some, Option.isSome_none, xis0, xis1, xis2, xis3, xis4, e_ks, lk_k, lk_c, List.lookup_nil, gt_c, vi_i, k1_n, k1_c, k2_n, k2_c, ar_n, ar_c, pk_n, pk_c, rm_0, rm_1, rm_2, rm_3, rm_4, rm_5, rc_9, rcs, fvs, rf_s, rf_n, isI_i, isL_l, isR_r, isR_n, isR_q, ct_i, ct_l, ct_r, ct_n, ct_q, tFs, tCs, tKs, tJs, tSs, e_nf, lgs, ↓reduceIte, true_and, and_true, false_and, and_false, or_true, true_or, false_or, or_false, Nat.reduceAdd, Nat.reduceEqDiff, Nat.reduceDiv, Nat.reduceLT, Nat.reduceLeDiff, Nat.zero_add, reduceCtorEq, Bool.false_eq_true, Option.toList_some, Option.toList_none, List.cons_append, List.nil_append, not_true_eq_false, not_false_eq_true, Nat.sub_zero, dsX6_put, jsX6_put, xcX6_put]
    exact hq O' M' (hN.mut h3 hF hS') (fr_SN hF hm (by rw [s0]; decide))
theorem plc_wf {kd : Int32} {sp : List SPN} {bk : List BLK} {lt : List PT} {p : PT} (h1 : neB bk) (h2 : (mpts bk).length ≤ 300) : neB (plc kd sp bk lt p).2.1 ∧ (mpts (plc kd sp bk lt p).2.1).length ≤ 300 := by
  unfold plc
  split
  · exact ⟨h1, h2⟩
  · split
    · exact ⟨h1, h2⟩
    · split
      · exact ⟨h1, h2⟩
      · split
        · exact ⟨h1, h2⟩
        · refine ⟨neB_apM p h1, ?_⟩
          rw [apM_pts, List.length_append]
          simp only [List.length_cons, List.length_nil]
          omega
def flc (kd : Int32) (sp : List SPN) (st : Int32) (ri : Int64) : Nat → List BLK × List PT → Int32 → Int64 → Nat × List BLK × List PT
  | 0, r, _, _ => (0, r)
  | d + 1, r, t, v => if (plc kd sp r.1 r.2 (t, v)).1 = 1 then ((flc kd sp st ri d (plc kd sp r.1 r.2 (t, v)).2 (t + st) (v + ri)).1 + 1, (flc kd sp st ri d (plc kd sp r.1 r.2 (t, v)).2 (t + st) (v + ri)).2) else (0, (plc kd sp r.1 r.2 (t, v)).2)
def aFill (L : List SER) (i t st : Int32) (v ri : Int64) (c : Int32) : Int32 × List SER := match ser L i with
  | none => (-1, L)
  | some S => if c < 1 ∨ 40 < c ∨ st < 1 ∨ 1000000 < st ∨ ¬ (¬ ri < -1000000000000 ∧ ¬ 1000000000000 < ri) then (-2, L) else (nI (flc S.1 S.2.2.1 st ri c.toNatClampNeg S.2.2.2 t v).1, L.set i.toNatClampNeg (setBL S (flc S.1 S.2.2.1 st ri c.toNatClampNeg S.2.2.2 t v).2))
def csX6_fill : CS := (cs_c 0 38 2 6 sp_X6_seriesAt (cs_c 2 66 1 9 sp_X6_isValue (cs_c 0 61 3 4 sp_X4_place cs_0)))
theorem csoX6_fill : ∀ op x na cl sp, csX6_fill op x = some (na, cl, sp) → CallOK 6 6 140 op x na cl sp := (cs_c_ok (caX6_fill_38 okX6_seriesAt) (cs_c_ok (caX6_fill_66 okX6_isValue) (cs_c_ok (caX6_fill_61 okX4_place) cs_0_ok)))
theorem xcX6_fill : (∀ (Q : QT) (G : GT) (pc : Nat) (L : LV) (a0 a1 : Value) (r : List Value) (M : HM) (k n : Nat), ex_i 6 14 1 false csX6_fill Q G (.invokevirtual 38) pc L (a1 :: a0 :: r) M k n = (e_rm r ∧ e_rc M 6 [a0, a1] ∧ sp_X6_seriesAt [a0, a1] M k n (fun v M' k' n' => G (pc + 3) L (v.toList ++ r) M' k' n'))) ∧ (∀ (Q : QT) (G : GT) (pc : Nat) (L : LV) (a0 : Value) (r : List Value) (M : HM) (k n : Nat), ex_i 6 14 1 false csX6_fill Q G (.invokestatic 66) pc L (a0 :: r) M k n = (e_rm r ∧ e_rc M 9 [a0] ∧ sp_X6_isValue [a0] M k n (fun v M' k' n' => G (pc + 3) L (v.toList ++ r) M' k' n'))) ∧ (∀ (Q : QT) (G : GT) (pc : Nat) (L : LV) (a0 a1 a2 : Value) (r : List Value) (M : HM) (k n : Nat), ex_i 6 14 1 false csX6_fill Q G (.invokevirtual 61) pc L (a2 :: a1 :: a0 :: r) M k n = (e_rm r ∧ e_rc M 4 [a0, a1, a2] ∧ sp_X4_place [a0, a1, a2] M k n (fun v M' k' n' => G (pc + 3) L (v.toList ++ r) M' k' n'))) := ⟨(fun _ _ _ _ _ _ _ _ _ _ => xv0_2 rfl), (fun _ _ _ _ _ _ _ _ _ => xv2_1 rfl), (fun _ _ _ _ _ _ _ _ _ _ _ => xv0_3 rfl)⟩
def sp_X6_fill : SP := fun as M k n Q => match as with
  | [.ref x, .int i, .int t, .int st, .long v, .long ri, .int c] => ∃ O L sc ct tr m, NRep O M x L sc ct tr ∧ mK M m = 8 ∧ wf1 L ∧ 80 ≤ k ∧ 9600 ≤ n ∧ ∀ O' M', NRep O' M' x (aFill L i t st v ri c).2 sc ct tr → Fr (SN m) O O' M M' → Q (some (.int (aFill L i t st v ri c).1)) M' (k - 80) (n - 9600)
  | _ => False
theorem okX6_fill : OkX6_fill sp_X6_fill := by
  refine inX6_fill csoX6_fill ?_
  intro as M k n Q hsp
  unfold sp_X6_fill at hsp
  split at hsp
  rotate_left
  · exact hsp.elim
  rename_i x i t st v ri c
  obtain ⟨O, L, sc, ct, tr, m, hN, hm, hwf, hk, hn, hq⟩ := hsp
  have k0 := hN.1.1.1
  have kR := hN.1.1
  refine ⟨80, 9600, hk, hn, Nat.le_of_ble_eq_true rfl, fun G hG => ?_⟩
  unfold aFill at hq
  rcases hN.sa i with ⟨h1, h2⟩ | ⟨i', S, h1, rfl, h3, h4, h5, h6⟩
  · rw [h1] at hq
    refine e_g2 hG [] 40 ?_
    simp only [e_wp_s, Option.getD_some, Option.isSome_some, Option.isSome_none, xis0, xis1, xis2, xis3, xis4, e_ks, lk_k, lk_c, List.lookup_nil, gt_c, vi_i, k1_n, k1_c, k2_n, k2_c, ar_n, ar_c, pk_n, pk_c, rm_0, rm_1, rm_2, rm_3, rm_4, rm_5, rc_9, rcs, fvs, rf_s, rf_n, isI_i, isL_l, isR_r, isR_n, isR_q, ct_i, ct_l, ct_r, ct_n, ct_q, tFs, tCs, tKs, tJs, tSs, e_nf, lgs, ↓reduceIte, true_and, and_true, false_and, and_false, or_true, true_or, false_or, or_false, Nat.reduceAdd, Nat.reduceEqDiff, Nat.reduceDiv, Nat.reduceLT, Nat.reduceLeDiff, Nat.zero_add, reduceCtorEq, Bool.false_eq_true, Option.toList_some, Option.toList_none, List.cons_append, List.nil_append, not_true_eq_false, not_false_eq_true, Nat.sub_zero, dsX6_fill, jsX6_fill, xcX6_fill, k0, kR, h2, ↓sp_X6_seriesAt]
    exact hq O M hN Fr.rf
  · simp only [h1, nI_clamp (show i' < 2 ^ 31 by omega)] at hq
    have s0 := h5.1.1.1
    obtain ⟨w1, w2, w3⟩ := hwf S (List.mem_of_getElem? h3)
    by_cases c1 : c < 1
    · rw [if_pos (Or.inl c1)] at hq
      refine e_g2 hG [] 60 ?_
      simp only [e_wp_s, Option.getD_some, Option.isSome_some, Option.isSome_none, xis0, xis1, xis2, xis3, xis4, e_ks, lk_k, lk_c, List.lookup_nil, gt_c, vi_i, k1_n, k1_c, k2_n, k2_c, ar_n, ar_c, pk_n, pk_c, rm_0, rm_1, rm_2, rm_3, rm_4, rm_5, rc_9, rcs, fvs, rf_s, rf_n, isI_i, isL_l, isR_r, isR_n, isR_q, ct_i, ct_l, ct_r, ct_n, ct_q, tFs, tCs, tKs, tJs, tSs, e_nf, lgs, ↓reduceIte, true_and, and_true, false_and, and_false, or_true, true_or, false_or, or_false, Nat.reduceAdd, Nat.reduceEqDiff, Nat.reduceDiv, Nat.reduceLT, Nat.reduceLeDiff, Nat.zero_add, reduceCtorEq, Bool.false_eq_true, Option.toList_some, Option.toList_none, List.cons_append, List.nil_append, not_true_eq_false, not_false_eq_true, Nat.sub_zero, dsX6_fill, jsX6_fill, xcX6_fill, k0, kR, h4, c1, ↓sp_X6_seriesAt]
      exact hq O M hN Fr.rf
    by_cases c2 : 40 < c
    · rw [if_pos (Or.inr (Or.inl c2))] at hq
      refine e_g2 hG [] 60 ?_
      simp only [e_wp_s, Option.getD_some, Option.isSome_some, Option.isSome_none, xis0, xis1, xis2, xis3, xis4, e_ks, lk_k, lk_c, List.lookup_nil, gt_c, vi_i, k1_n, k1_c, k2_n, k2_c, ar_n, ar_c, pk_n, pk_c, rm_0, rm_1, rm_2, rm_3, rm_4, rm_5, rc_9, rcs, fvs, rf_s, rf_n, isI_i, isL_l, isR_r, isR_n, isR_q, ct_i, ct_l, ct_r, ct_n, ct_q, tFs, tCs, tKs, tJs, tSs, e_nf, lgs, ↓reduceIte, true_and, and_true, false_and, and_false, or_true, true_or, false_or, or_false, Nat.reduceAdd, Nat.reduceEqDiff, Nat.reduceDiv, Nat.reduceLT, Nat.reduceLeDiff, Nat.zero_add, reduceCtorEq, Bool.false_eq_true, Option.toList_some, Option.toList_none, List.cons_append, List.nil_append, not_true_eq_false, not_false_eq_true, Nat.sub_zero, dsX6_fill, jsX6_fill, xcX6_fill, k0, kR, h4, c1, c2, ↓sp_X6_seriesAt]
      exact hq O M hN Fr.rf
    by_cases c3 : st < 1
    · rw [if_pos (Or.inr (Or.inr (Or.inl c3)))] at hq
      refine e_g2 hG [] 60 ?_
      simp only [e_wp_s, Option.getD_some, Option.isSome_some, Option.isSome_none, xis0, xis1, xis2, xis3, xis4, e_ks, lk_k, lk_c, List.lookup_nil, gt_c, vi_i, k1_n, k1_c, k2_n, k2_c, ar_n, ar_c, pk_n, pk_c, rm_0, rm_1, rm_2, rm_3, rm_4, rm_5, rc_9, rcs, fvs, rf_s, rf_n, isI_i, isL_l, isR_r, isR_n, isR_q, ct_i, ct_l, ct_r, ct_n, ct_q, tFs, tCs, tKs, tJs, tSs, e_nf, lgs, ↓reduceIte, true_and, and_true, false_and, and_false, or_true, true_or, false_or, or_false, Nat.reduceAdd, Nat.reduceEqDiff, Nat.reduceDiv, Nat.reduceLT, Nat.reduceLeDiff, Nat.zero_add, reduceCtorEq, Bool.false_eq_true, Option.toList_some, Option.toList_none, List.cons_append, List.nil_append, not_true_eq_false, not_false_eq_true, Nat.sub_zero, dsX6_fill, jsX6_fill, xcX6_fill, k0, kR, h4, c1, c2, c3, ↓sp_X6_seriesAt]
      exact hq O M hN Fr.rf
    by_cases c4 : 1000000 < st
    · rw [if_pos (Or.inr (Or.inr (Or.inr (Or.inl c4))))] at hq
      refine e_g2 hG [] 60 ?_
      simp only [e_wp_s, Option.getD_some, Option.isSome_some, Option.isSome_none, xis0, xis1, xis2, xis3, xis4, e_ks, lk_k, lk_c, List.lookup_nil, gt_c, vi_i, k1_n, k1_c, k2_n, k2_c, ar_n, ar_c, pk_n, pk_c, rm_0, rm_1, rm_2, rm_3, rm_4, rm_5, rc_9, rcs, fvs, rf_s, rf_n, isI_i, isL_l, isR_r, isR_n, isR_q, ct_i, ct_l, ct_r, ct_n, ct_q, tFs, tCs, tKs, tJs, tSs, e_nf, lgs, ↓reduceIte, true_and, and_true, false_and, and_false, or_true, true_or, false_or, or_false, Nat.reduceAdd, Nat.reduceEqDiff, Nat.reduceDiv, Nat.reduceLT, Nat.reduceLeDiff, Nat.zero_add, reduceCtorEq, Bool.false_eq_true, Option.toList_some, Option.toList_none, List.cons_append, List.nil_append, not_true_eq_false, not_false_eq_true, Nat.sub_zero, dsX6_fill, jsX6_fill, xcX6_fill, k0, kR, h4, c1, c2, c3, c4, ↓sp_X6_seriesAt]
      exact hq O M hN Fr.rf
    by_cases c5 : ¬ ri < -1000000000000 ∧ ¬ 1000000000000 < ri
    · rw [if_neg (fun z => by
        rcases z with z | z | z | z | z
        · exact c1 z
        · exact c2 z
        · exact c3 z
        · exact c4 z
        · exact z c5)] at hq
      have cn : ¬ c < 0 := fun z => c1 (Int32.lt_trans z (by decide))
      obtain ⟨c', hc, rfl⟩ := nI_of cn
      have c40 : c' ≤ 40 := Nat.le_of_not_lt (fun z => c2 (nI_lt (a := 40) z hc))
      rw [nI_clamp hc] at hq
      have loop : ∀ d j O' M' r tj vj k' n', j + d = c' → SRep O' M' (sA M x i') S.1 S.2.1 S.2.2.1 r.1 r.2 → Fr (Ss (sA M x i')) O O' M M' → neB r.1 → (mpts r.1).length ≤ 300 → nI (flc S.1 S.2.2.1 st ri c' S.2.2.2 t v).1 = nI (j + (flc S.1 S.2.2.1 st ri d r tj vj).1) → (flc S.1 S.2.2.1 st ri c' S.2.2.2 t v).2 = (flc S.1 S.2.2.1 st ri d r tj vj).2 → 2 * d ≤ k' → 240 * d ≤ n' → G 59 [(3, .int st), (6, .long ri), (8, .int (nI c')), (9, .ref (sA M x i')), (10, .int tj), (11, .long vj), (13, .int (nI j))] [] M' k' n' := by
        intro d
        induction d with
        | zero =>
          intro j O' M' r tj vj k' n' hj hS' hF' n1 n2 he1 he2 hk' hn'
          have e1 : ¬ nI j < nI c' := nI_nlt (by omega) (by omega)
          refine e_g2 hG [] 40 ?_
          simp only [e_wp_s, Option.getD_some, Option.isSome_some, Option.isSome_none, xis0, xis1, xis2, xis3, xis4, e_ks, lk_k, lk_c, List.lookup_nil, gt_c, vi_i, k1_n, k1_c, k2_n, k2_c, ar_n, ar_c, pk_n, pk_c, rm_0, rm_1, rm_2, rm_3, rm_4, rm_5, rc_9, rcs, fvs, rf_s, rf_n, isI_i, isL_l, isR_r, isR_n, isR_q, ct_i, ct_l, ct_r, ct_n, ct_q, tFs, tCs, tKs, tJs, tSs, e_nf, lgs, ↓reduceIte, true_and, and_true, false_and, and_false, or_true, true_or, false_or, or_false, Nat.reduceAdd, Nat.reduceEqDiff, Nat.reduceDiv, Nat.reduceLT, Nat.reduceLeDiff, Nat.zero_add, reduceCtorEq, Bool.false_eq_true, Option.toList_some, Option.toList_none, List.cons_append, List.nil_append, not_true_eq_false, not_false_eq_true, Nat.sub_zero, dsX6_fill, jsX6_fill, xcX6_fill, e1]
          rw [show c' = j + 0 by omega]
          have := hq O' M' (hN.mut h3 hF' (S' := setBL S (flc S.1 S.2.2.1 st ri c' S.2.2.2 t v).2) (by rw [he2]; exact hS')) (fr_SN hF' hm (by rw [s0]; decide))
          rw [he1] at this
          exact this
        | succ d ih =>
          intro j O' M' r tj vj k' n' hj hS' hF' n1 n2 he1 he2 hk' hn'
          have e1 : nI j < nI c' := nI_lt (by omega) (by omega)
          have s0' := hS'.1.1.1
          rw [flc] at he1 he2
          refine e_g2 hG [(75, [3, 6, 8, 9, 10, 11, 13])] 40 ?_
          simp only [e_wp_s, Option.getD_some, Option.isSome_some, Option.isSome_none, xis0, xis1, xis2, xis3, xis4, e_ks, lk_k, lk_c, List.lookup_nil, gt_c, vi_i, k1_n, k1_c, k2_n, k2_c, ar_n, ar_c, pk_n, pk_c, rm_0, rm_1, rm_2, rm_3, rm_4, rm_5, rc_9, rcs, fvs, rf_s, rf_n, isI_i, isL_l, isR_r, isR_n, isR_q, ct_i, ct_l, ct_r, ct_n, ct_q, tFs, tCs, tKs, tJs, tSs, e_nf, lgs, ↓reduceIte, true_and, and_true, false_and, and_false, or_true, true_or, false_or, or_false, Nat.reduceAdd, Nat.reduceEqDiff, Nat.reduceDiv, Nat.reduceLT, Nat.reduceLeDiff, Nat.zero_add, reduceCtorEq, Bool.false_eq_true, Option.toList_some, Option.toList_none, List.cons_append, List.nil_append, not_true_eq_false, not_false_eq_true, Nat.sub_zero, dsX6_fill, jsX6_fill, xcX6_fill, e1, s0']
          refine ⟨O', _, _, _, _, _, hS', n1, n2, by omega, by omega, fun O2 M2 hS2 hF2 => ?_⟩
          obtain ⟨n3, n4⟩ := plc_wf (kd := S.1) (sp := S.2.2.1) (lt := r.2) (p := (tj, vj)) n1 n2
          by_cases cp : (plc S.1 S.2.2.1 r.1 r.2 (tj, vj)).1 = 1
          · rw [if_pos cp] at he1 he2
            refine e_g2 hG [(59, [3, 6, 8, 9, 10, 11, 13])] 40 ?_
            simp only [e_wp_s, Option.getD_some, Option.isSome_some, Option.isSome_none, xis0, xis1, xis2, xis3, xis4, e_ks, lk_k, lk_c, List.lookup_nil, gt_c, vi_i, k1_n, k1_c, k2_n, k2_c, ar_n, ar_c, pk_n, pk_c, rm_0, rm_1, rm_2, rm_3, rm_4, rm_5, rc_9, rcs, fvs, rf_s, rf_n, isI_i, isL_l, isR_r, isR_n, isR_q, ct_i, ct_l, ct_r, ct_n, ct_q, tFs, tCs, tKs, tJs, tSs, e_nf, lgs, ↓reduceIte, true_and, and_true, false_and, and_false, or_true, true_or, false_or, or_false, Nat.reduceAdd, Nat.reduceEqDiff, Nat.reduceDiv, Nat.reduceLT, Nat.reduceLeDiff, Nat.zero_add, reduceCtorEq, Bool.false_eq_true, Option.toList_some, Option.toList_none, List.cons_append, List.nil_append, not_true_eq_false, not_false_eq_true, Nat.sub_zero, dsX6_fill, jsX6_fill, xcX6_fill, cp, nI_1]
            exact ih (j + 1) O2 M2 _ _ _ _ _ (by omega) hS2 (hF'.tr hF2) n3 n4 (by rw [he1]; congr 1; show j + (_ + 1) = _; omega) he2 (by omega) (by omega)
          · rw [if_neg cp] at he1 he2
            refine e_g2 hG [] 40 ?_
            simp only [e_wp_s, Option.getD_some, Option.isSome_some, Option.isSome_none, xis0, xis1, xis2, xis3, xis4, e_ks, lk_k, lk_c, List.lookup_nil, gt_c, vi_i, k1_n, k1_c, k2_n, k2_c, ar_n, ar_c, pk_n, pk_c, rm_0, rm_1, rm_2, rm_3, rm_4, rm_5, rc_9, rcs, fvs, rf_s, rf_n, isI_i, isL_l, isR_r, isR_n, isR_q, ct_i, ct_l, ct_r, ct_n, ct_q, tFs, tCs, tKs, tJs, tSs, e_nf, lgs, ↓reduceIte, true_and, and_true, false_and, and_false, or_true, true_or, false_or, or_false, Nat.reduceAdd, Nat.reduceEqDiff, Nat.reduceDiv, Nat.reduceLT, Nat.reduceLeDiff, Nat.zero_add, reduceCtorEq, Bool.false_eq_true, Option.toList_some, Option.toList_none, List.cons_append, List.nil_append, not_true_eq_false, not_false_eq_true, Nat.sub_zero, dsX6_fill, jsX6_fill, xcX6_fill, cp]
            have hF3 := hF'.tr hF2
            have := hq O2 M2 (hN.mut h3 hF3 (S' := setBL S (flc S.1 S.2.2.1 st ri c' S.2.2.2 t v).2) (by rw [he2]; exact hS2)) (fr_SN hF3 hm (by rw [s0]; decide))
            rw [he1] at this
            exact this
      refine e_g2 hG [(59, [3, 6, 8, 9, 10, 11, 13])] 60 ?_
      simp only [e_wp_s, Option.getD_some, Option.isSome_some, Option.isSome_none, xis0, xis1, xis2, xis3, xis4, e_ks, lk_k, lk_c, List.lookup_nil, gt_c, vi_i, k1_n, k1_c, k2_n, k2_c, ar_n, ar_c, pk_n, pk_c, rm_0, rm_1, rm_2, rm_3, rm_4, rm_5, rc_9, rcs, fvs, rf_s, rf_n, isI_i, isL_l, isR_r, isR_n, isR_q, ct_i, ct_l, ct_r, ct_n, ct_q, tFs, tCs, tKs, tJs, tSs, e_nf, lgs, ↓reduceIte, true_and, and_true, false_and, and_false, or_true, true_or, false_or, or_false, Nat.reduceAdd, Nat.reduceEqDiff, Nat.reduceDiv, Nat.reduceLT, Nat.reduceLeDiff, Nat.zero_add, reduceCtorEq, Bool.false_eq_true, Option.toList_some, Option.toList_none, List.cons_append, List.nil_append, not_true_eq_false, not_false_eq_true, Nat.sub_zero, dsX6_fill, jsX6_fill, xcX6_fill, k0, kR, h4, c1, c2, c3, c4, c5, i10, ↓sp_X6_seriesAt, ↓sp_X6_isValue]
      exact loop c' 0 O M S.2.2.2 t v _ _ (by omega) h5 Fr.rf w1 w2 (by rw [Nat.zero_add]) rfl (by omega) (by omega)
    · rw [if_pos (Or.inr (Or.inr (Or.inr (Or.inr c5))))] at hq
      refine e_g2 hG [] 60 ?_
      simp only [e_wp_s, Option.getD_some, Option.isSome_some, Option.isSome_none, xis0, xis1, xis2, xis3, xis4, e_ks, lk_k, lk_c, List.lookup_nil, gt_c, vi_i, k1_n, k1_c, k2_n, k2_c, ar_n, ar_c, pk_n, pk_c, rm_0, rm_1, rm_2, rm_3, rm_4, rm_5, rc_9, rcs, fvs, rf_s, rf_n, isI_i, isL_l, isR_r, isR_n, isR_q, ct_i, ct_l, ct_r, ct_n, ct_q, tFs, tCs, tKs, tJs, tSs, e_nf, lgs, ↓reduceIte, true_and, and_true, false_and, and_false, or_true, true_or, false_or, or_false, Nat.reduceAdd, Nat.reduceEqDiff, Nat.reduceDiv, Nat.reduceLT, Nat.reduceLeDiff, Nat.zero_add, reduceCtorEq, Bool.false_eq_true, Option.toList_some, Option.toList_none, List.cons_append, List.nil_append, not_true_eq_false, not_false_eq_true, Nat.sub_zero, dsX6_fill, jsX6_fill, xcX6_fill, k0, kR, h4, c1, c2, c3, c4, c5, ↓sp_X6_seriesAt, ↓sp_X6_isValue]
      exact hq O M hN Fr.rf
def drpS (S : SER) (t : Int32) : SER := (S.1, S.2.1, S.2.2.1.filter (kpS t), S.2.2.2.1.filter (kpB t), S.2.2.2.2.drop (lbl t S.2.2.2.2))
def aDrop (L : List SER) (i t : Int32) : Int32 × List SER := match ser L i with
  | none => (-1, L)
  | some S => (nI ((S.2.2.1.length - (S.2.2.1.filter (kpS t)).length) + (S.2.2.2.1.length - (S.2.2.2.1.filter (kpB t)).length)), L.set i.toNatClampNeg (drpS S t))
def csX6_drop : CS := (cs_c 0 38 2 6 sp_X6_seriesAt (cs_c 0 108 2 4 sp_X4_dropLate (cs_c 0 111 2 4 sp_X4_dropSpans (cs_c 0 114 2 4 sp_X4_dropBlocks cs_0))))
theorem csoX6_drop : ∀ op x na cl sp, csX6_drop op x = some (na, cl, sp) → CallOK 6 4 89 op x na cl sp := (cs_c_ok (caX6_drop_38 okX6_seriesAt) (cs_c_ok (caX6_drop_108 okX4_dropLate) (cs_c_ok (caX6_drop_111 okX4_dropSpans) (cs_c_ok (caX6_drop_114 okX4_dropBlocks) cs_0_ok))))
theorem xcX6_drop : (∀ (Q : QT) (G : GT) (pc : Nat) (L : LV) (a0 a1 : Value) (r : List Value) (M : HM) (k n : Nat), ex_i 6 4 1 false csX6_drop Q G (.invokevirtual 38) pc L (a1 :: a0 :: r) M k n = (e_rm r ∧ e_rc M 6 [a0, a1] ∧ sp_X6_seriesAt [a0, a1] M k n (fun v M' k' n' => G (pc + 3) L (v.toList ++ r) M' k' n'))) ∧ (∀ (Q : QT) (G : GT) (pc : Nat) (L : LV) (a0 a1 : Value) (r : List Value) (M : HM) (k n : Nat), ex_i 6 4 1 false csX6_drop Q G (.invokevirtual 108) pc L (a1 :: a0 :: r) M k n = (e_rm r ∧ e_rc M 4 [a0, a1] ∧ sp_X4_dropLate [a0, a1] M k n (fun v M' k' n' => G (pc + 3) L (v.toList ++ r) M' k' n'))) ∧ (∀ (Q : QT) (G : GT) (pc : Nat) (L : LV) (a0 a1 : Value) (r : List Value) (M : HM) (k n : Nat), ex_i 6 4 1 false csX6_drop Q G (.invokevirtual 111) pc L (a1 :: a0 :: r) M k n = (e_rm r ∧ e_rc M 4 [a0, a1] ∧ sp_X4_dropSpans [a0, a1] M k n (fun v M' k' n' => G (pc + 3) L (v.toList ++ r) M' k' n'))) ∧ (∀ (Q : QT) (G : GT) (pc : Nat) (L : LV) (a0 a1 : Value) (r : List Value) (M : HM) (k n : Nat), ex_i 6 4 1 false csX6_drop Q G (.invokevirtual 114) pc L (a1 :: a0 :: r) M k n = (e_rm r ∧ e_rc M 4 [a0, a1] ∧ sp_X4_dropBlocks [a0, a1] M k n (fun v M' k' n' => G (pc + 3) L (v.toList ++ r) M' k' n'))) := ⟨(fun _ _ _ _ _ _ _ _ _ _ => xv0_2 rfl), (fun _ _ _ _ _ _ _ _ _ _ => xv0_2 rfl), (fun _ _ _ _ _ _ _ _ _ _ => xv0_2 rfl), (fun _ _ _ _ _ _ _ _ _ _ => xv0_2 rfl)⟩
def sp_X6_drop : SP := fun as M k n Q => match as with
  | [.ref x, .int i, .int t] => ∃ O L sc ct tr m, NRep O M x L sc ct tr ∧ mK M m = 8 ∧ wf1 L ∧ ∀ O' M', NRep O' M' x (aDrop L i t).2 sc ct tr → Fr (SN m) O O' M M' → Q (some (.int (aDrop L i t).1)) M' k n
  | _ => False
theorem okX6_drop : OkX6_drop sp_X6_drop := by
  refine inX6_drop csoX6_drop ?_
  intro as M k n Q hsp
  unfold sp_X6_drop at hsp
  split at hsp
  rotate_left
  · exact hsp.elim
  rename_i x i t
  obtain ⟨O, L, sc, ct, tr, m, hN, hm, hwf, hq⟩ := hsp
  have k0 := hN.1.1.1
  have kR := hN.1.1
  refine ⟨0, 0, Nat.zero_le _, Nat.zero_le _, Nat.le_of_ble_eq_true rfl, fun G hG => ?_⟩
  unfold aDrop at hq
  rcases hN.sa i with ⟨h1, h2⟩ | ⟨i', S, h1, rfl, h3, h4, h5, h6⟩
  · rw [h1] at hq
    refine e_g2 hG [] 40 ?_
    simp only [e_wp_s, Option.getD_some, Option.isSome_some, Option.isSome_none, xis0, xis1, xis2, xis3, xis4, e_ks, lk_k, lk_c, List.lookup_nil, gt_c, vi_i, k1_n, k1_c, k2_n, k2_c, ar_n, ar_c, pk_n, pk_c, rm_0, rm_1, rm_2, rm_3, rm_4, rm_5, rc_9, rcs, fvs, rf_s, rf_n, isI_i, isL_l, isR_r, isR_n, isR_q, ct_i, ct_l, ct_r, ct_n, ct_q, tFs, tCs, tKs, tJs, tSs, e_nf, lgs, ↓reduceIte, true_and, and_true, false_and, and_false, or_true, true_or, false_or, or_false, Nat.reduceAdd, Nat.reduceEqDiff, Nat.reduceDiv, Nat.reduceLT, Nat.reduceLeDiff, Nat.zero_add, reduceCtorEq, Bool.false_eq_true, Option.toList_some, Option.toList_none, List.cons_append, List.nil_append, not_true_eq_false, not_false_eq_true, Nat.sub_zero, dsX6_drop, jsX6_drop, xcX6_drop, k0, kR, h2, ↓sp_X6_seriesAt]
    exact hq O M hN Fr.rf
  · simp only [h1, nI_clamp (show i' < 2 ^ 31 by omega)] at hq
    have s0 := h5.1.1.1
    obtain ⟨w1, w2, w3⟩ := hwf S (List.mem_of_getElem? h3)
    refine e_g2 hG [(17, [2, 3])] 40 ?_
    simp only [e_wp_s, Option.getD_some, Option.isSome_some, Option.isSome_none, xis0, xis1, xis2, xis3, xis4, e_ks, lk_k, lk_c, List.lookup_nil, gt_c, vi_i, k1_n, k1_c, k2_n, k2_c, ar_n, ar_c, pk_n, pk_c, rm_0, rm_1, rm_2, rm_3, rm_4, rm_5, rc_9, rcs, fvs, rf_s, rf_n, isI_i, isL_l, isR_r, isR_n, isR_q, ct_i, ct_l, ct_r, ct_n, ct_q, tFs, tCs, tKs, tJs, tSs, e_nf, lgs, ↓reduceIte, true_and, and_true, false_and, and_false, or_true, true_or, false_or, or_false, Nat.reduceAdd, Nat.reduceEqDiff, Nat.reduceDiv, Nat.reduceLT, Nat.reduceLeDiff, Nat.zero_add, reduceCtorEq, Bool.false_eq_true, Option.toList_some, Option.toList_none, List.cons_append, List.nil_append, not_true_eq_false, not_false_eq_true, Nat.sub_zero, dsX6_drop, jsX6_drop, xcX6_drop, k0, kR, h4, s0, ↓sp_X6_seriesAt]
    refine ⟨O, _, _, _, _, _, h5, fun M1 hS1 hF1 => ?_⟩
    have s1 := hS1.1.1.1
    refine e_g2 hG [(22, [2, 3])] 40 ?_
    simp only [e_wp_s, Option.getD_some, Option.isSome_some, Option.isSome_none, xis0, xis1, xis2, xis3, xis4, e_ks, lk_k, lk_c, List.lookup_nil, gt_c, vi_i, k1_n, k1_c, k2_n, k2_c, ar_n, ar_c, pk_n, pk_c, rm_0, rm_1, rm_2, rm_3, rm_4, rm_5, rc_9, rcs, fvs, rf_s, rf_n, isI_i, isL_l, isR_r, isR_n, isR_q, ct_i, ct_l, ct_r, ct_n, ct_q, tFs, tCs, tKs, tJs, tSs, e_nf, lgs, ↓reduceIte, true_and, and_true, false_and, and_false, or_true, true_or, false_or, or_false, Nat.reduceAdd, Nat.reduceEqDiff, Nat.reduceDiv, Nat.reduceLT, Nat.reduceLeDiff, Nat.zero_add, reduceCtorEq, Bool.false_eq_true, Option.toList_some, Option.toList_none, List.cons_append, List.nil_append, not_true_eq_false, not_false_eq_true, Nat.sub_zero, dsX6_drop, jsX6_drop, xcX6_drop, s1]
    refine ⟨O, _, _, _, _, _, hS1, fun M2 hS2 hF2 => ?_⟩
    have s2 := hS2.1.1.1
    refine e_g2 hG [(27, [])] 40 ?_
    simp only [e_wp_s, Option.getD_some, Option.isSome_some, Option.isSome_none, xis0, xis1, xis2, xis3, xis4, e_ks, lk_k, lk_c, List.lookup_nil, gt_c, vi_i, k1_n, k1_c, k2_n, k2_c, ar_n, ar_c, pk_n, pk_c, rm_0, rm_1, rm_2, rm_3, rm_4, rm_5, rc_9, rcs, fvs, rf_s, rf_n, isI_i, isL_l, isR_r, isR_n, isR_q, ct_i, ct_l, ct_r, ct_n, ct_q, tFs, tCs, tKs, tJs, tSs, e_nf, lgs, ↓reduceIte, true_and, and_true, false_and, and_false, or_true, true_or, false_or, or_false, Nat.reduceAdd, Nat.reduceEqDiff, Nat.reduceDiv, Nat.reduceLT, Nat.reduceLeDiff, Nat.zero_add, reduceCtorEq, Bool.false_eq_true, Option.toList_some, Option.toList_none, List.cons_append, List.nil_append, not_true_eq_false, not_false_eq_true, Nat.sub_zero, dsX6_drop, jsX6_drop, xcX6_drop, s2]
    refine ⟨O, _, _, _, _, _, hS2, w1, fun M3 hS3 hF3 => ?_⟩
    refine e_g2 hG [] 40 ?_
    simp only [e_wp_s, Option.getD_some, Option.isSome_some, Option.isSome_none, xis0, xis1, xis2, xis3, xis4, e_ks, lk_k, lk_c, List.lookup_nil, gt_c, vi_i, k1_n, k1_c, k2_n, k2_c, ar_n, ar_c, pk_n, pk_c, rm_0, rm_1, rm_2, rm_3, rm_4, rm_5, rc_9, rcs, fvs, rf_s, rf_n, isI_i, isL_l, isR_r, isR_n, isR_q, ct_i, ct_l, ct_r, ct_n, ct_q, tFs, tCs, tKs, tJs, tSs, e_nf, lgs, ↓reduceIte, true_and, and_true, false_and, and_false, or_true, true_or, false_or, or_false, Nat.reduceAdd, Nat.reduceEqDiff, Nat.reduceDiv, Nat.reduceLT, Nat.reduceLeDiff, Nat.zero_add, reduceCtorEq, Bool.false_eq_true, Option.toList_some, Option.toList_none, List.cons_append, List.nil_append, not_true_eq_false, not_false_eq_true, Nat.sub_zero, dsX6_drop, jsX6_drop, xcX6_drop, nI_add]
    have hF := (hF1.tr hF2).tr hF3
    exact hq O M3 (hN.mut h3 hF hS3) (fr_SN hF hm (by rw [s0]; decide))
theorem NRep.push {O O' : GH} {M N : HM} {x sc ct tr s : Nat} {L : List SER} {S : SER} (h : NRep O M x L sc ct tr) (h8 : L.length < 8) (hF : Fr (fun _ _ => False) O O' M N) (hs : mK M s = 0) (hS : SRp O' N s S) : NRep O' (sI (tR N (rws N x) L.length (some s)) 193 x (nI (L.length + 1))) x (L ++ [S]) sc ct tr ∧ Fr (Ss x) O O' M (sI (tR N (rws N x) L.length (some s)) 193 x (nI (L.length + 1))) := by
  obtain ⟨k1, k2, k3, k4⟩ := h.ks
  obtain ⟨b1, b2, b3, b4, b5, b6, b7⟩ := h.base hF (fun _ _ _ z => z)
  have hNr : NRep O' N x L sc ct tr := by
    obtain ⟨-, ⟨h1, h2⟩, hs, hij, hg, hq, a, b, u, hQ⟩ := h
    refine ⟨b1, ⟨by rw [b2]; exact h1, h2⟩, fun j T hT => ?_, fun j l hj' hl' e => hij j l hj' hl' (by rw [← b6, ← b6]; exact e), ?_, ?_, a, b, u, ?_⟩
    · rw [b6, b3, b7]
      exact ⟨(hs j T hT).1, (hs j T hT).2.frm hF (fun _ _ _ z => z)⟩
    · rw [b4]; exact (hg.frm hF (fun z => z) (fun z => z) (fun z => z)).1
    · rw [b5, (hF _ (by rw [k3]; decide)).2.1]; exact hq
    · rw [b5]; exact hQ.frm ((hF _ (by rw [k3]; decide)).2.2 (fun z => z))
  obtain ⟨⟨⟨r0, ⟨r1, r2, r3⟩, r4, r5⟩, o0, o1⟩, ⟨h1, h2⟩, hs', hij, hg, hq, a, b, u, hQ⟩ := id hNr
  obtain ⟨j1, j2, j3, j4⟩ := hNr.ks
  have hFx : Fr (Ss x) O' O' N (sI (tR N (rws N x) L.length (some s)) 193 x (nI (L.length + 1))) := fr_K rfl (fun a ha => sm_sI (fun e => ha (by show (O' a).1 = x; rw [e, o0])) (sm_tR (fun e => ha (by show (O' a).1 = x; rw [e, o1])) Sm.rf))
  generalize hX : sI (tR N (rws N x) L.length (some s)) 193 x (nI (L.length + 1)) = X at *
  have xR : mR X = mR N := by rw [← hX]; simp only [hmR]
  have xK : mK X = mK N := by rw [← hX]; simp only [hmK]
  have xN : mN X = mN N := by rw [← hX]; simp only [hmN]
  have xA : ∀ i, aR X (rws N x) i = if i = L.length then some s else aR N (rws N x) i := fun i => by rw [← hX]; simp only [haR, true_and]
  have xI : mI X 193 x = nI (L.length + 1) := by rw [← hX]; simp only [hmI, and_self, if_true]
  have q1 : rws X x = rws N x := by unfold rws; rw [xR]
  have q2 : gA X x = gA N x := by unfold gA; rw [xR]
  have q3 : qA X x = qA N x := by unfold qA; rw [xR]
  have q4 : ∀ i, sA X x i = if i = L.length then s else sA N x i := fun i => by
    unfold sA; rw [q1, xA]; split <;> rfl
  have ne : ∀ a b, mK N a ≠ mK N b → a ≠ b := fun a b h e => h (by rw [e])
  have ks : mK N s = 5 := hS.1.1.1
  have sne : ∀ i T, L[i]? = some T → sA N x i ≠ s := fun i T hT e => by
    have := k4 i T hT
    rw [← b6, e, hs] at this
    cases this
  refine ⟨⟨⟨⟨?_, ⟨?_, ?_, ?_⟩, ?_, ?_⟩, o0, ?_⟩, ⟨?_, ?_⟩, ?_, ?_, ?_, ?_, a, b, u, ?_⟩, (hF.mono (fun _ _ z => z.elim)).tr hFx⟩
  · rw [xK]; exact r0
  · rw [xR, q1]; exact r1
  · rw [xK, q1]; exact r2
  · rw [xN, q1]; exact r3
  · rw [xR, q2]; exact r4
  · rw [xR, q3]; exact r5
  · rw [q1]; exact o1
  · rw [xI, List.length_append]; rfl
  · rw [List.length_append]; exact h8
  · intro i T hT
    rw [q1, xA, q4]
    by_cases c : i = L.length
    · rw [if_pos c, if_pos c]
      rw [c, List.getElem?_append_right (Nat.le_refl _), Nat.sub_self] at hT
      cases hT
      exact ⟨rfl, hS.frm hFx (fun a o ho e => ne x s (by rw [j1, ks]; decide) (e.symm.trans ho))⟩
    · rw [if_neg c, if_neg c]
      have hil : i < L.length := by
        have := (List.getElem?_eq_some_iff.mp hT).1
        rw [List.length_append] at this
        simp only [List.length_cons, List.length_nil] at this
        omega
      rw [List.getElem?_append_left hil] at hT
      exact ⟨(hs' i T hT).1, (hs' i T hT).2.frm hFx (fun a o ho e => ne x (sA N x i) (by rw [j1, j4 i T hT]; decide) (e.symm.trans ho))⟩
  · intro i j hi hj e
    rw [List.length_append] at hi hj
    simp only [List.length_cons, List.length_nil] at hi hj
    rw [q4, q4] at e
    by_cases c : i = L.length <;> by_cases c2 : j = L.length
    · omega
    · rw [if_pos c, if_neg c2] at e
      exact absurd e.symm (sne j _ (List.getElem?_eq_getElem (by omega)))
    · rw [if_neg c, if_pos c2] at e
      exact absurd e (sne i _ (List.getElem?_eq_getElem (by omega)))
    · rw [if_neg c, if_neg c2] at e
      exact hij i j (by omega) (by omega) e
  · rw [q2]
    have gO := hg.2
    have ng := ne (gA N x) x (by rw [j2, j1]; decide)
    exact (hg.frm hFx (fun e => ng (gO.1.symm.trans e)) (fun e => ng (gO.2.1.symm.trans e)) (fun e => ng (gO.2.2.1.symm.trans e))).1
  · rw [q3]; exact hq
  · rw [q3]; exact hQ.frm ((hFx _ (by rw [j3]; decide)).2.2 (fun e => ne (qA N x) x (by rw [j3, j1]; decide) (hq.symm.trans e)))
def newSer (kd : Int32) : SER := (kd, (fun _ => -1), [], [], [])
def aSeries (L : List SER) (kd : Int32) : Int32 × List SER := if kd < 0 ∨ ¬ kd < 4 then (-2, L) else if L.length = 8 then (-5, L) else (nI L.length, L ++ [newSer kd])
def csX6_series : CS := (cs_c 1 35 2 4 sp_X4_init cs_0)
theorem csoX6_series : ∀ op x na cl sp, csX6_series op x = some (na, cl, sp) → CallOK 6 2 44 op x na cl sp := (cs_c_ok (caX6_series_35 okX4_init) cs_0_ok)
theorem xcX6_series : (∀ (Q : QT) (G : GT) (pc : Nat) (L : LV) (a0 a1 : Value) (r : List Value) (M : HM) (k n : Nat), ex_i 6 2 1 false csX6_series Q G (.invokespecial 35) pc L (a1 :: a0 :: r) M k n = (e_rm r ∧ e_rc M 4 [a0, a1] ∧ sp_X4_init [a0, a1] M k n (fun v M' k' n' => G (pc + 3) L (v.toList ++ r) M' k' n'))) := (fun _ _ _ _ _ _ _ _ _ _ => xv1_2 rfl)
def sp_X6_series : SP := fun as M k n Q => match as with
  | [.ref x, .int kd] => ∃ O L sc ct tr m, NRep O M x L sc ct tr ∧ mK M m = 8 ∧ 6 ≤ k ∧ 457 ≤ n ∧ ∀ O' M', NRep O' M' x (aSeries L kd).2 sc ct tr → Fr (SN m) O O' M M' → Q (some (.int (aSeries L kd).1)) M' (k - 6) (n - 457)
  | _ => False
theorem okX6_series : OkX6_series sp_X6_series := by
  refine inX6_series csoX6_series ?_
  intro as M k n Q hsp
  unfold sp_X6_series at hsp
  split at hsp
  rotate_left
  · exact hsp.elim
  rename_i x kd
  obtain ⟨O, L, sc, ct, tr, m, hN, hm, hk, hn, hq⟩ := hsp
  obtain ⟨⟨⟨k0, ⟨k1, k2, k3⟩, -⟩, o0, o1⟩, ⟨kc, h8⟩, -⟩ := id hN
  refine ⟨6, 457, hk, hn, Nat.le_of_ble_eq_true rfl, fun G hG => ?_⟩
  unfold aSeries at hq
  by_cases c1 : kd < 0
  · rw [if_pos (Or.inl c1)] at hq
    refine e_g2 hG [] 40 ?_
    simp only [e_wp_s, Option.getD_some, Option.isSome_some, Option.isSome_none, xis0, xis1, xis2, xis3, xis4, e_ks, lk_k, lk_c, List.lookup_nil, gt_c, vi_i, k1_n, k1_c, k2_n, k2_c, ar_n, ar_c, pk_n, pk_c, rm_0, rm_1, rm_2, rm_3, rm_4, rm_5, rc_9, rcs, fvs, rf_s, rf_n, isI_i, isL_l, isR_r, isR_n, isR_q, ct_i, ct_l, ct_r, ct_n, ct_q, tFs, tCs, tKs, tJs, tSs, e_nf, lgs, ↓reduceIte, true_and, and_true, false_and, and_false, or_true, true_or, false_or, or_false, Nat.reduceAdd, Nat.reduceEqDiff, Nat.reduceDiv, Nat.reduceLT, Nat.reduceLeDiff, Nat.zero_add, reduceCtorEq, Bool.false_eq_true, Option.toList_some, Option.toList_none, List.cons_append, List.nil_append, not_true_eq_false, not_false_eq_true, Nat.sub_zero, dsX6_series, jsX6_series, xcX6_series, c1]
    exact hq O M hN Fr.rf
  by_cases c2 : kd < 4
  · rw [if_neg (fun z => z.elim c1 (fun z => z c2))] at hq
    have e0 : ¬ nI L.length < 0 := nI_pos (by omega)
    by_cases c3 : L.length = 8
    · rw [if_pos c3] at hq
      have e1 : ¬ nI L.length < 8 := nI_nlt (b := 8) (by omega) (by omega)
      refine e_g2 hG [] 40 ?_
      simp only [e_wp_s, Option.getD_some, Option.isSome_some, Option.isSome_none, xis0, xis1, xis2, xis3, xis4, e_ks, lk_k, lk_c, List.lookup_nil, gt_c, vi_i, k1_n, k1_c, k2_n, k2_c, ar_n, ar_c, pk_n, pk_c, rm_0, rm_1, rm_2, rm_3, rm_4, rm_5, rc_9, rcs, fvs, rf_s, rf_n, isI_i, isL_l, isR_r, isR_n, isR_q, ct_i, ct_l, ct_r, ct_n, ct_q, tFs, tCs, tKs, tJs, tSs, e_nf, lgs, ↓reduceIte, true_and, and_true, false_and, and_false, or_true, true_or, false_or, or_false, Nat.reduceAdd, Nat.reduceEqDiff, Nat.reduceDiv, Nat.reduceLT, Nat.reduceLeDiff, Nat.zero_add, reduceCtorEq, Bool.false_eq_true, Option.toList_some, Option.toList_none, List.cons_append, List.nil_append, not_true_eq_false, not_false_eq_true, Nat.sub_zero, dsX6_series, jsX6_series, xcX6_series, k0, k1, k2, k3, kc, c1, c2, e0, e1, ofs]
      exact hq O M hN Fr.rf
    · rw [if_neg c3] at hq
      have e1 : nI L.length < 8 := nI_lt (b := 8) (by omega) (by decide)
      have e2 : (nI L.length).toNatClampNeg = L.length := nI_clamp (by omega)
      have e3 : vp_in (nI L.length) 8 := vp_in_nI (by omega) (by decide)
      refine e_g2 hG [(50, [0])] 60 ?_
      simp only [e_wp_s, Option.getD_some, Option.isSome_some, Option.isSome_none, xis0, xis1, xis2, xis3, xis4, e_ks, lk_k, lk_c, List.lookup_nil, gt_c, vi_i, k1_n, k1_c, k2_n, k2_c, ar_n, ar_c, pk_n, pk_c, rm_0, rm_1, rm_2, rm_3, rm_4, rm_5, rc_9, rcs, fvs, rf_s, rf_n, isI_i, isL_l, isR_r, isR_n, isR_q, ct_i, ct_l, ct_r, ct_n, ct_q, tFs, tCs, tKs, tJs, tSs, e_nf, lgs, ↓reduceIte, true_and, and_true, false_and, and_false, or_true, true_or, false_or, or_false, Nat.reduceAdd, Nat.reduceEqDiff, Nat.reduceDiv, Nat.reduceLT, Nat.reduceLeDiff, Nat.zero_add, reduceCtorEq, Bool.false_eq_true, Option.toList_some, Option.toList_none, List.cons_append, List.nil_append, not_true_eq_false, not_false_eq_true, Nat.sub_zero, dsX6_series, jsX6_series, xcX6_series, k0, k1, k2, k3, kc, c1, c2, e0, e1, ofs, hmK, hmN, hmI, hmL, hmR, haI, haL, haR]
      intro q hq0
      have qS : ∀ a, mK M a ≠ 0 → Sm a M (nO M 4 q) := fun a ha => sm_nO (fun e => by rw [e, hq0] at ha; exact ha rfl) Sm.rf
      have hF0 : Fr (fun _ _ => False) O (O1 O q (q, q)) M (nO M 4 q) := fun a ha => by
        have a1 : a ≠ q := fun e => by rw [e, hq0] at ha; exact ha rfl
        exact ⟨(qS a ha).1, by simp [O1, a1], fun _ => qS a ha⟩
      refine ⟨O1 O q (q, q), by simp only [hmK, if_true], by simp [O1], by decide, by decide, fun O' M' hS' hF' => ?_⟩
      have hF : Fr (fun _ _ => False) O O' M M' := fun a ha => by
        obtain ⟨f1, f2, f3⟩ := hF0 a ha
        obtain ⟨g1, g2, g3⟩ := hF' a (by rw [f1]; exact ha)
        exact ⟨g1.trans f1, g2.trans f2, fun _ => (f3 (fun z => z)).tr (g3 (fun e => by rw [show a = q from e, hq0] at ha; exact ha rfl))⟩
      obtain ⟨p1, p2⟩ := hN.push (S := newSer kd) (by omega) hF hq0 hS'
      obtain ⟨b1, b2, b3, b4, b5, b6, b7⟩ := hN.base hF (fun _ _ _ z => z)
      obtain ⟨⟨y0, ⟨y1, y2, y3⟩, -⟩, -⟩ := b1
      have yc : mI M' 193 x = nI L.length := by rw [b2]; exact kc
      have yk : mK M' q = 5 := hS'.1.1.1
      have y2' : mK M' (rws M x) = 12 := by rw [← b3]; exact y2
      have y3' : mN M' (rws M x) = 8 := by rw [← b3]; exact y3
      have kpos : mK M x ≠ 8 := by rw [k0]; decide
      rw [b3] at p1 p2
      refine e_g2 hG [] 60 ?_
      simp only [e_wp_s, Option.getD_some, Option.isSome_some, Option.isSome_none, xis0, xis1, xis2, xis3, xis4, e_ks, lk_k, lk_c, List.lookup_nil, gt_c, vi_i, k1_n, k1_c, k2_n, k2_c, ar_n, ar_c, pk_n, pk_c, rm_0, rm_1, rm_2, rm_3, rm_4, rm_5, rc_9, rcs, fvs, rf_s, rf_n, isI_i, isL_l, isR_r, isR_n, isR_q, ct_i, ct_l, ct_r, ct_n, ct_q, tFs, tCs, tKs, tJs, tSs, e_nf, lgs, ↓reduceIte, true_and, and_true, false_and, and_false, or_true, true_or, false_or, or_false, Nat.reduceAdd, Nat.reduceEqDiff, Nat.reduceDiv, Nat.reduceLT, Nat.reduceLeDiff, Nat.zero_add, reduceCtorEq, Bool.false_eq_true, Option.toList_some, Option.toList_none, List.cons_append, List.nil_append, not_true_eq_false, not_false_eq_true, Nat.sub_zero, dsX6_series, jsX6_series, xcX6_series, y0, y2', y3', yc, yk, e2, e3, hmK, hmN, hmI, hmL, hmR, haI, haL, haR, nI_1, nI_pred]
      exact ⟨rfl, hq O' _ p1 (fr_SN p2 hm kpos)⟩
  · rw [if_pos (Or.inr c2)] at hq
    refine e_g2 hG [] 40 ?_
    simp only [e_wp_s, Option.getD_some, Option.isSome_some, Option.isSome_none, xis0, xis1, xis2, xis3, xis4, e_ks, lk_k, lk_c, List.lookup_nil, gt_c, vi_i, k1_n, k1_c, k2_n, k2_c, ar_n, ar_c, pk_n, pk_c, rm_0, rm_1, rm_2, rm_3, rm_4, rm_5, rc_9, rcs, fvs, rf_s, rf_n, isI_i, isL_l, isR_r, isR_n, isR_q, ct_i, ct_l, ct_r, ct_n, ct_q, tFs, tCs, tKs, tJs, tSs, e_nf, lgs, ↓reduceIte, true_and, and_true, false_and, and_false, or_true, true_or, false_or, or_false, Nat.reduceAdd, Nat.reduceEqDiff, Nat.reduceDiv, Nat.reduceLT, Nat.reduceLeDiff, Nat.zero_add, reduceCtorEq, Bool.false_eq_true, Option.toList_some, Option.toList_none, List.cons_append, List.nil_append, not_true_eq_false, not_false_eq_true, Nat.sub_zero, dsX6_series, jsX6_series, xcX6_series, c1, c2]
    exact hq O M hN Fr.rf
