/-! the reference: series, label, match, put, fill, late, span, point, head -/
theorem MRp.at_ {A : Nat → Nat} {O : GH} {M : HM} {m : Nat} {L : List SER} {z : Nat × Nat × Nat} (h : MRp A O M m L z) (i : Int32) : (ser L i = none ∧ ¬ (¬ i < 0 ∧ i < mI M 224 m)) ∨ ∃ s S, ser L i = some S ∧ i = nI s ∧ L[s]? = some S ∧ MSer A M s S ∧ s < 8 ∧ (¬ i < 0 ∧ i < mI M 224 m) := by
  obtain ⟨-, -, ⟨h3, h3'⟩, h4, -⟩ := h
  unfold ser
  by_cases c : i < 0
  · left; rw [if_pos c]; exact ⟨rfl, fun q => q.1 c⟩
  · obtain ⟨s, hs, rfl⟩ := nI_of c
    rw [if_neg c, nI_clamp hs, h3]
    cases hx : L[s]? with
    | none => left; exact ⟨rfl, fun q => nI_nlt (List.getElem?_eq_none_iff.mp hx) hs q.2⟩
    | some S =>
      right
      have hl := (List.getElem?_eq_some_iff.mp hx).1
      exact ⟨s, S, rfl, rfl, hx, h4 s S hx, by omega, c, nI_lt hl (by omega)⟩
def csX7_put : CS := (cs_c 0 103 2 7 sp_X7_isSeries (cs_c 0 182 4 7 sp_X7_placed cs_0))
theorem csoX7_put : ∀ op x na cl sp, csX7_put op x = some (na, cl, sp) → CallOK 7 4 99 op x na cl sp := (cs_c_ok (caX7_put_103 okX7_isSeries) (cs_c_ok (caX7_put_182 okX7_placed) cs_0_ok))
theorem xcX7_put : (∀ (Q : QT) (G : GT) (pc : Nat) (L : LV) (a0 a1 : Value) (r : List Value) (M : HM) (k n : Nat), ex_i 7 5 1 false csX7_put Q G (.invokevirtual 103) pc L (a1 :: a0 :: r) M k n = (e_rm r ∧ e_rc M 7 [a0, a1] ∧ sp_X7_isSeries [a0, a1] M k n (fun v M' k' n' => G (pc + 3) L (v.toList ++ r) M' k' n'))) ∧ (∀ (Q : QT) (G : GT) (pc : Nat) (L : LV) (a0 a1 a2 a3 : Value) (r : List Value) (M : HM) (k n : Nat), ex_i 7 5 1 false csX7_put Q G (.invokevirtual 182) pc L (a3 :: a2 :: a1 :: a0 :: r) M k n = (e_rm r ∧ e_rc M 7 [a0, a1, a2, a3] ∧ sp_X7_placed [a0, a1, a2, a3] M k n (fun v M' k' n' => G (pc + 3) L (v.toList ++ r) M' k' n'))) := ⟨(fun _ _ _ _ _ _ _ _ _ _ => xv0_2 rfl), (fun _ _ _ _ _ _ _ _ _ _ _ _ => xv0_4 rfl)⟩
def sp_X7_put : SP := fun as M k n Q => match as with
  | [.ref m, .int i, .int t, .long v] => ∃ A O L z, MRp A O M m L z ∧ ∀ U, MRp A O U m (aPut L i t v).2 z → Fr (Ss m) O O M U → Q (some (.int (aPut L i t v).1)) U k n
  | _ => False
theorem okX7_put : OkX7_put sp_X7_put := by
  refine inX7_put csoX7_put ?_
  intro as M k n Q hsp
  unfold sp_X7_put at hsp
  split at hsp
  rotate_left
  · exact hsp.elim
  rename_i m i t v
  obtain ⟨A, O, L, z, hR, hq⟩ := hsp
  have h0 := hR.1.1
  refine ⟨0, 0, Nat.zero_le _, Nat.zero_le _, Nat.le_of_ble_eq_true rfl, fun G hG => ?_⟩
  unfold aPut at hq
  rcases hR.at_ i with ⟨h1, h2⟩ | ⟨s, S, h1, rfl, h3, h4, h5, h6⟩
  · rw [h1] at hq
    refine e_g2 hG [] 40 ?_
    simp only [e_wp_s, Option.getD_some, Option.isSome_some, Option.isSome_none, xis0, xis1, xis2, xis3, xis4, e_ks, lk_k, lk_c, List.lookup_nil, gt_c, vi_i, k1_n, k1_c, k2_n, k2_c, ar_n, ar_c, pk_n, pk_c, rm_0, rm_1, rm_2, rm_3, rm_4, rm_5, rc_9, rcs, fvs, rf_s, rf_n, isI_i, isL_l, isR_r, isR_n, isR_q, ct_i, ct_l, ct_r, ct_n, ct_q, tFs, tCs, tKs, tJs, tSs, e_nf, lgs, ↓reduceIte, true_and, and_true, false_and, and_false, or_true, true_or, false_or, or_false, Nat.reduceAdd, Nat.reduceEqDiff, Nat.reduceDiv, Nat.reduceLT, Nat.reduceLeDiff, Nat.zero_add, reduceCtorEq, Bool.false_eq_true, Option.toList_some, Option.toList_none, List.cons_append, List.nil_append, not_true_eq_false, not_false_eq_true, Nat.sub_zero, dsX7_put, jsX7_put, xcX7_put, h0, h2, ↓sp_X7_isSeries]
    exact hq M hR Fr.rf
  · simp only [h1, nI_clamp (show s < 2 ^ 31 by omega)] at hq
    refine e_g2 hG [(16, [])] 40 ?_
    simp only [e_wp_s, Option.getD_some, Option.isSome_some, Option.isSome_none, xis0, xis1, xis2, xis3, xis4, e_ks, lk_k, lk_c, List.lookup_nil, gt_c, vi_i, k1_n, k1_c, k2_n, k2_c, ar_n, ar_c, pk_n, pk_c, rm_0, rm_1, rm_2, rm_3, rm_4, rm_5, rc_9, rcs, fvs, rf_s, rf_n, isI_i, isL_l, isR_r, isR_n, isR_q, ct_i, ct_l, ct_r, ct_n, ct_q, tFs, tCs, tKs, tJs, tSs, e_nf, lgs, ↓reduceIte, true_and, and_true, false_and, and_false, or_true, true_or, false_or, or_false, Nat.reduceAdd, Nat.reduceEqDiff, Nat.reduceDiv, Nat.reduceLT, Nat.reduceLeDiff, Nat.zero_add, reduceCtorEq, Bool.false_eq_true, Option.toList_some, Option.toList_none, List.cons_append, List.nil_append, not_true_eq_false, not_false_eq_true, Nat.sub_zero, dsX7_put, jsX7_put, xcX7_put, h0, h6, i10, ↓sp_X7_isSeries]
    refine ⟨O, A, s, S, t, hR.1, hR.2.1, h5, h4, rfl, rfl, fun U hC hI hS => ?_⟩
    refine e_g2 hG [] 40 ?_
    simp only [e_wp_s, Option.getD_some, Option.isSome_some, Option.isSome_none, xis0, xis1, xis2, xis3, xis4, e_ks, lk_k, lk_c, List.lookup_nil, gt_c, vi_i, k1_n, k1_c, k2_n, k2_c, ar_n, ar_c, pk_n, pk_c, rm_0, rm_1, rm_2, rm_3, rm_4, rm_5, rc_9, rcs, fvs, rf_s, rf_n, isI_i, isL_l, isR_r, isR_n, isR_q, ct_i, ct_l, ct_r, ct_n, ct_q, tFs, tCs, tKs, tJs, tSs, e_nf, lgs, ↓reduceIte, true_and, and_true, false_and, and_false, or_true, true_or, false_or, or_false, Nat.reduceAdd, Nat.reduceEqDiff, Nat.reduceDiv, Nat.reduceLT, Nat.reduceLeDiff, Nat.zero_add, reduceCtorEq, Bool.false_eq_true, Option.toList_some, Option.toList_none, List.cons_append, List.nil_append, not_true_eq_false, not_false_eq_true, Nat.sub_zero, dsX7_put, jsX7_put, xcX7_put]
    exact hq U (hR.mut h3 hC hI (by decide) hS) hC.2.2.2.1
theorem plc_1 {kd : Int32} {sp : List SPN} {bk : List BLK} {lt : List PT} {p : PT} (h : (plc kd sp bk lt p).1 = 1) : ¬ p.1 < 0 ∧ ¬ 1000000000 < p.1 := by
  unfold plc at h
  split at h
  · exact absurd h (by show ¬ (-2 : Int32) = 1; decide)
  · rename_i c
    exact (Decidable.not_not.mp c).1
theorem l_add {x y : Int32} (h1 : -2147483648 ≤ x.toInt + y.toInt) (h2 : x.toInt + y.toInt ≤ 2147483647) : x.toInt64 + y.toInt64 = (x + y).toInt64 := by
  apply Int64.toInt_inj.mp
  rw [Int64.toInt_add, Int32.toInt_toInt64, Int32.toInt_toInt64, Int32.toInt_toInt64, Int32.toInt_add, Int.bmod_eq_of_le, Int.bmod_eq_of_le] <;> omega
theorem lN_succ (j : Nat) : lN (j + 1) = lN j + 1 := Int64.ofNat_add j 1
def csX7_fill : CS := (cs_c 0 103 2 7 sp_X7_isSeries (cs_c 0 182 4 7 sp_X7_placed cs_0))
theorem csoX7_fill : ∀ op x na cl sp, csX7_fill op x = some (na, cl, sp) → CallOK 7 4 99 op x na cl sp := (cs_c_ok (caX7_fill_103 okX7_isSeries) (cs_c_ok (caX7_fill_182 okX7_placed) cs_0_ok))
theorem xcX7_fill : (∀ (Q : QT) (G : GT) (pc : Nat) (L : LV) (a0 a1 : Value) (r : List Value) (M : HM) (k n : Nat), ex_i 7 11 1 false csX7_fill Q G (.invokevirtual 103) pc L (a1 :: a0 :: r) M k n = (e_rm r ∧ e_rc M 7 [a0, a1] ∧ sp_X7_isSeries [a0, a1] M k n (fun v M' k' n' => G (pc + 3) L (v.toList ++ r) M' k' n'))) ∧ (∀ (Q : QT) (G : GT) (pc : Nat) (L : LV) (a0 a1 a2 a3 : Value) (r : List Value) (M : HM) (k n : Nat), ex_i 7 11 1 false csX7_fill Q G (.invokevirtual 182) pc L (a3 :: a2 :: a1 :: a0 :: r) M k n = (e_rm r ∧ e_rc M 7 [a0, a1, a2, a3] ∧ sp_X7_placed [a0, a1, a2, a3] M k n (fun v M' k' n' => G (pc + 3) L (v.toList ++ r) M' k' n'))) := ⟨(fun _ _ _ _ _ _ _ _ _ _ => xv0_2 rfl), (fun _ _ _ _ _ _ _ _ _ _ _ _ => xv0_4 rfl)⟩
def sp_X7_fill : SP := fun as M k n Q => match as with
  | [.ref m, .int i, .int t, .int st, .long v, .long ri, .int c] => ∃ A O L z, MRp A O M m L z ∧ ∀ U, MRp A O U m (aFill L i t st v ri c).2 z → Fr (Ss m) O O M U → Q (some (.int (aFill L i t st v ri c).1)) U k n
  | _ => False
theorem okX7_fill : OkX7_fill sp_X7_fill := by
  refine inX7_fill csoX7_fill ?_
  intro as M k n Q hsp
  unfold sp_X7_fill at hsp
  split at hsp
  rotate_left
  · exact hsp.elim
  rename_i m i t st v ri c
  obtain ⟨A, O, L, z, hR, hq⟩ := hsp
  have h0 := hR.1.1
  refine ⟨0, 0, Nat.zero_le _, Nat.zero_le _, Nat.le_of_ble_eq_true rfl, fun G hG => ?_⟩
  unfold aFill at hq
  rcases hR.at_ i with ⟨h1, h2⟩ | ⟨s, S, h1, rfl, h3, h4, h5, h6⟩
  · rw [h1] at hq
    refine e_g2 hG [] 40 ?_
    simp only [e_wp_s, Option.getD_some, Option.isSome_some, Option.isSome_none, xis0, xis1, xis2, xis3, xis4, e_ks, lk_k, lk_c, List.lookup_nil, gt_c, vi_i, k1_n, k1_c, k2_n, k2_c, ar_n, ar_c, pk_n, pk_c, rm_0, rm_1, rm_2, rm_3, rm_4, rm_5, rc_9, rcs, fvs, rf_s, rf_n, isI_i, isL_l, isR_r, isR_n, isR_q, ct_i, ct_l, ct_r, ct_n, ct_q, tFs, tCs, tKs, tJs, tSs, e_nf, lgs, ↓reduceIte, true_and, and_true, false_and, and_false, or_true, true_or, false_or, or_false, Nat.reduceAdd, Nat.reduceEqDiff, Nat.reduceDiv, Nat.reduceLT, Nat.reduceLeDiff, Nat.zero_add, reduceCtorEq, Bool.false_eq_true, Option.toList_some, Option.toList_none, List.cons_append, List.nil_append, not_true_eq_false, not_false_eq_true, Nat.sub_zero, dsX7_fill, jsX7_fill, xcX7_fill, h0, h2, ↓sp_X7_isSeries]
    exact hq M hR Fr.rf
  · simp only [h1, nI_clamp (show s < 2 ^ 31 by omega)] at hq
    by_cases c1 : c < 1
    · rw [if_pos (Or.inl c1)] at hq
      refine e_g2 hG [] 60 ?_
      simp only [e_wp_s, Option.getD_some, Option.isSome_some, Option.isSome_none, xis0, xis1, xis2, xis3, xis4, e_ks, lk_k, lk_c, List.lookup_nil, gt_c, vi_i, k1_n, k1_c, k2_n, k2_c, ar_n, ar_c, pk_n, pk_c, rm_0, rm_1, rm_2, rm_3, rm_4, rm_5, rc_9, rcs, fvs, rf_s, rf_n, isI_i, isL_l, isR_r, isR_n, isR_q, ct_i, ct_l, ct_r, ct_n, ct_q, tFs, tCs, tKs, tJs, tSs, e_nf, lgs, ↓reduceIte, true_and, and_true, false_and, and_false, or_true, true_or, false_or, or_false, Nat.reduceAdd, Nat.reduceEqDiff, Nat.reduceDiv, Nat.reduceLT, Nat.reduceLeDiff, Nat.zero_add, reduceCtorEq, Bool.false_eq_true, Option.toList_some, Option.toList_none, List.cons_append, List.nil_append, not_true_eq_false, not_false_eq_true, Nat.sub_zero, dsX7_fill, jsX7_fill, xcX7_fill, h0, h6, i10, c1, ↓sp_X7_isSeries]
      exact hq M hR Fr.rf
    by_cases c2 : 40 < c
    · rw [if_pos (Or.inr (Or.inl c2))] at hq
      refine e_g2 hG [] 60 ?_
      simp only [e_wp_s, Option.getD_some, Option.isSome_some, Option.isSome_none, xis0, xis1, xis2, xis3, xis4, e_ks, lk_k, lk_c, List.lookup_nil, gt_c, vi_i, k1_n, k1_c, k2_n, k2_c, ar_n, ar_c, pk_n, pk_c, rm_0, rm_1, rm_2, rm_3, rm_4, rm_5, rc_9, rcs, fvs, rf_s, rf_n, isI_i, isL_l, isR_r, isR_n, isR_q, ct_i, ct_l, ct_r, ct_n, ct_q, tFs, tCs, tKs, tJs, tSs, e_nf, lgs, ↓reduceIte, true_and, and_true, false_and, and_false, or_true, true_or, false_or, or_false, Nat.reduceAdd, Nat.reduceEqDiff, Nat.reduceDiv, Nat.reduceLT, Nat.reduceLeDiff, Nat.zero_add, reduceCtorEq, Bool.false_eq_true, Option.toList_some, Option.toList_none, List.cons_append, List.nil_append, not_true_eq_false, not_false_eq_true, Nat.sub_zero, dsX7_fill, jsX7_fill, xcX7_fill, h0, h6, i10, c1, c2, ↓sp_X7_isSeries]
      exact hq M hR Fr.rf
    by_cases c3 : st < 1
    · rw [if_pos (Or.inr (Or.inr (Or.inl c3)))] at hq
      refine e_g2 hG [] 60 ?_
      simp only [e_wp_s, Option.getD_some, Option.isSome_some, Option.isSome_none, xis0, xis1, xis2, xis3, xis4, e_ks, lk_k, lk_c, List.lookup_nil, gt_c, vi_i, k1_n, k1_c, k2_n, k2_c, ar_n, ar_c, pk_n, pk_c, rm_0, rm_1, rm_2, rm_3, rm_4, rm_5, rc_9, rcs, fvs, rf_s, rf_n, isI_i, isL_l, isR_r, isR_n, isR_q, ct_i, ct_l, ct_r, ct_n, ct_q, tFs, tCs, tKs, tJs, tSs, e_nf, lgs, ↓reduceIte, true_and, and_true, false_and, and_false, or_true, true_or, false_or, or_false, Nat.reduceAdd, Nat.reduceEqDiff, Nat.reduceDiv, Nat.reduceLT, Nat.reduceLeDiff, Nat.zero_add, reduceCtorEq, Bool.false_eq_true, Option.toList_some, Option.toList_none, List.cons_append, List.nil_append, not_true_eq_false, not_false_eq_true, Nat.sub_zero, dsX7_fill, jsX7_fill, xcX7_fill, h0, h6, i10, c1, c2, c3, ↓sp_X7_isSeries]
      exact hq M hR Fr.rf
    by_cases c4 : 1000000 < st
    · rw [if_pos (Or.inr (Or.inr (Or.inr (Or.inl c4))))] at hq
      refine e_g2 hG [] 60 ?_
      simp only [e_wp_s, Option.getD_some, Option.isSome_some, Option.isSome_none, xis0, xis1, xis2, xis3, xis4, e_ks, lk_k, lk_c, List.lookup_nil, gt_c, vi_i, k1_n, k1_c, k2_n, k2_c, ar_n, ar_c, pk_n, pk_c, rm_0, rm_1, rm_2, rm_3, rm_4, rm_5, rc_9, rcs, fvs, rf_s, rf_n, isI_i, isL_l, isR_r, isR_n, isR_q, ct_i, ct_l, ct_r, ct_n, ct_q, tFs, tCs, tKs, tJs, tSs, e_nf, lgs, ↓reduceIte, true_and, and_true, false_and, and_false, or_true, true_or, false_or, or_false, Nat.reduceAdd, Nat.reduceEqDiff, Nat.reduceDiv, Nat.reduceLT, Nat.reduceLeDiff, Nat.zero_add, reduceCtorEq, Bool.false_eq_true, Option.toList_some, Option.toList_none, List.cons_append, List.nil_append, not_true_eq_false, not_false_eq_true, Nat.sub_zero, dsX7_fill, jsX7_fill, xcX7_fill, h0, h6, i10, c1, c2, c3, c4, ↓sp_X7_isSeries]
      exact hq M hR Fr.rf
    by_cases c5 : ri < -1000000000000
    · rw [if_pos (Or.inr (Or.inr (Or.inr (Or.inr (fun q => q.1 c5)))))] at hq
      refine e_g2 hG [] 60 ?_
      simp only [e_wp_s, Option.getD_some, Option.isSome_some, Option.isSome_none, xis0, xis1, xis2, xis3, xis4, e_ks, lk_k, lk_c, List.lookup_nil, gt_c, vi_i, k1_n, k1_c, k2_n, k2_c, ar_n, ar_c, pk_n, pk_c, rm_0, rm_1, rm_2, rm_3, rm_4, rm_5, rc_9, rcs, fvs, rf_s, rf_n, isI_i, isL_l, isR_r, isR_n, isR_q, ct_i, ct_l, ct_r, ct_n, ct_q, tFs, tCs, tKs, tJs, tSs, e_nf, lgs, ↓reduceIte, true_and, and_true, false_and, and_false, or_true, true_or, false_or, or_false, Nat.reduceAdd, Nat.reduceEqDiff, Nat.reduceDiv, Nat.reduceLT, Nat.reduceLeDiff, Nat.zero_add, reduceCtorEq, Bool.false_eq_true, Option.toList_some, Option.toList_none, List.cons_append, List.nil_append, not_true_eq_false, not_false_eq_true, Nat.sub_zero, dsX7_fill, jsX7_fill, xcX7_fill, h0, h6, i10, c1, c2, c3, c4, c5, ↓sp_X7_isSeries]
      exact hq M hR Fr.rf
    by_cases c6 : 1000000000000 < ri
    · rw [if_pos (Or.inr (Or.inr (Or.inr (Or.inr (fun q => q.2 c6)))))] at hq
      refine e_g2 hG [] 60 ?_
      simp only [e_wp_s, Option.getD_some, Option.isSome_some, Option.isSome_none, xis0, xis1, xis2, xis3, xis4, e_ks, lk_k, lk_c, List.lookup_nil, gt_c, vi_i, k1_n, k1_c, k2_n, k2_c, ar_n, ar_c, pk_n, pk_c, rm_0, rm_1, rm_2, rm_3, rm_4, rm_5, rc_9, rcs, fvs, rf_s, rf_n, isI_i, isL_l, isR_r, isR_n, isR_q, ct_i, ct_l, ct_r, ct_n, ct_q, tFs, tCs, tKs, tJs, tSs, e_nf, lgs, ↓reduceIte, true_and, and_true, false_and, and_false, or_true, true_or, false_or, or_false, Nat.reduceAdd, Nat.reduceEqDiff, Nat.reduceDiv, Nat.reduceLT, Nat.reduceLeDiff, Nat.zero_add, reduceCtorEq, Bool.false_eq_true, Option.toList_some, Option.toList_none, List.cons_append, List.nil_append, not_true_eq_false, not_false_eq_true, Nat.sub_zero, dsX7_fill, jsX7_fill, xcX7_fill, h0, h6, i10, c1, c2, c3, c4, c5, c6, ↓sp_X7_isSeries]
      exact hq M hR Fr.rf
    rw [if_neg (fun q => by
      rcases q with q | q | q | q | q
      · exact c1 q
      · exact c2 q
      · exact c3 q
      · exact c4 q
      · exact q ⟨c5, c6⟩)] at hq
    have cn : ¬ c < 0 := fun q => c1 (Int32.lt_trans q (by decide))
    obtain ⟨c', hc, rfl⟩ := nI_of cn
    have c40 : c' ≤ 40 := Nat.le_of_not_lt (fun q => c2 (nI_lt (a := 40) q hc))
    rw [nI_clamp hc] at hq
    have stb : 1 ≤ st.toInt ∧ st.toInt ≤ 1000000 := by
      rw [Int32.lt_iff_toInt_lt] at c3 c4
      rw [show (1 : Int32).toInt = 1 from rfl] at c3
      rw [show (1000000 : Int32).toInt = 1000000 from rfl] at c4
      omega
    have loop : ∀ d j U r tj vj, j + d = c' → MC O A m [227, 228, 229, 231, 232, 233, 234, 235, 236] M U → MI A s M U → MSer A U s (setBL S r) → t.toInt64 + st.toInt64 * lN j = Int32.toInt64 tj → v + ri * lN j = vj → nI (flc S.1 S.2.2.1 st ri c' S.2.2.2 t v).1 = nI (j + (flc S.1 S.2.2.1 st ri d r tj vj).1) → (flc S.1 S.2.2.1 st ri c' S.2.2.2 t v).2 = (flc S.1 S.2.2.1 st ri d r tj vj).2 → G 61 [(0, .ref m), (1, .int (nI s)), (2, .int t), (3, .int st), (4, .long v), (6, .long ri), (8, .int (nI c')), (9, .int (nI j)), (10, .int 1)] [] U 0 0 := by
      intro d
      induction d with
      | zero =>
        intro j U r tj vj hj hC hI hS ht hv he1 he2
        have e1 : ¬ nI j < nI c' := nI_nlt (by omega) (by omega)
        refine e_g2 hG [] 40 ?_
        simp only [e_wp_s, Option.getD_some, Option.isSome_some, Option.isSome_none, xis0, xis1, xis2, xis3, xis4, e_ks, lk_k, lk_c, List.lookup_nil, gt_c, vi_i, k1_n, k1_c, k2_n, k2_c, ar_n, ar_c, pk_n, pk_c, rm_0, rm_1, rm_2, rm_3, rm_4, rm_5, rc_9, rcs, fvs, rf_s, rf_n, isI_i, isL_l, isR_r, isR_n, isR_q, ct_i, ct_l, ct_r, ct_n, ct_q, tFs, tCs, tKs, tJs, tSs, e_nf, lgs, ↓reduceIte, true_and, and_true, false_and, and_false, or_true, true_or, false_or, or_false, Nat.reduceAdd, Nat.reduceEqDiff, Nat.reduceDiv, Nat.reduceLT, Nat.reduceLeDiff, Nat.zero_add, reduceCtorEq, Bool.false_eq_true, Option.toList_some, Option.toList_none, List.cons_append, List.nil_append, not_true_eq_false, not_false_eq_true, Nat.sub_zero, dsX7_fill, jsX7_fill, xcX7_fill, e1]
        have := hq U (hR.mut h3 hC hI (by decide) (S' := setBL S (flc S.1 S.2.2.1 st ri c' S.2.2.2 t v).2) (by rw [he2]; exact hS)) hC.2.2.2.1
        rw [he1] at this
        exact this
      | succ d ih =>
        intro j U r tj vj hj hC hI hS ht hv he1 he2
        have hMU := hC.ms hR.1
        have g0 := hMU.1
        have e1 : nI j < nI c' := nI_lt (by omega) (by omega)
        have ejl : (nI j).toInt64 = lN j := nI_l (by omega)
        rw [flc] at he1 he2
        refine e_g2 hG [(96, [0, 1, 2, 3, 4, 6, 8, 9])] 60 ?_
        simp only [e_wp_s, Option.getD_some, Option.isSome_some, Option.isSome_none, xis0, xis1, xis2, xis3, xis4, e_ks, lk_k, lk_c, List.lookup_nil, gt_c, vi_i, k1_n, k1_c, k2_n, k2_c, ar_n, ar_c, pk_n, pk_c, rm_0, rm_1, rm_2, rm_3, rm_4, rm_5, rc_9, rcs, fvs, rf_s, rf_n, isI_i, isL_l, isR_r, isR_n, isR_q, ct_i, ct_l, ct_r, ct_n, ct_q, tFs, tCs, tKs, tJs, tSs, e_nf, lgs, ↓reduceIte, true_and, and_true, false_and, and_false, or_true, true_or, false_or, or_false, Nat.reduceAdd, Nat.reduceEqDiff, Nat.reduceDiv, Nat.reduceLT, Nat.reduceLeDiff, Nat.zero_add, reduceCtorEq, Bool.false_eq_true, Option.toList_some, Option.toList_none, List.cons_append, List.nil_append, not_true_eq_false, not_false_eq_true, Nat.sub_zero, dsX7_fill, jsX7_fill, xcX7_fill, g0, e1, i10, ejl, ht, hv]
        refine ⟨O, A, s, setBL S r, tj, hMU, hR.2.1, h5, hS, rfl, rfl, fun U2 hC2 hI2 hS2 => ?_⟩
        by_cases cp : (plc S.1 S.2.2.1 r.1 r.2 (tj, vj)).1 = 1
        · have cp' : (plc (setBL S r).1 (setBL S r).2.2.1 (setBL S r).2.2.2.1 (setBL S r).2.2.2.2 (tj, vj)).1 = 1 := cp
          rw [if_pos cp] at he1 he2
          have hb := plc_1 cp
          have htb : 0 ≤ tj.toInt ∧ tj.toInt ≤ 1000000000 := by
            have b1 := hb.1
            have b2 := hb.2
            rw [Int32.lt_iff_toInt_lt] at b1 b2
            rw [show (0 : Int32).toInt = 0 from rfl] at b1
            rw [show (1000000000 : Int32).toInt = 1000000000 from rfl] at b2
            simp only at b1 b2
            omega
          refine e_g2 hG [(61, [0, 1, 2, 3, 4, 6, 8, 9, 10])] 60 ?_
          simp only [e_wp_s, Option.getD_some, Option.isSome_some, Option.isSome_none, xis0, xis1, xis2, xis3, xis4, e_ks, lk_k, lk_c, List.lookup_nil, gt_c, vi_i, k1_n, k1_c, k2_n, k2_c, ar_n, ar_c, pk_n, pk_c, rm_0, rm_1, rm_2, rm_3, rm_4, rm_5, rc_9, rcs, fvs, rf_s, rf_n, isI_i, isL_l, isR_r, isR_n, isR_q, ct_i, ct_l, ct_r, ct_n, ct_q, tFs, tCs, tKs, tJs, tSs, e_nf, lgs, ↓reduceIte, true_and, and_true, false_and, and_false, or_true, true_or, false_or, or_false, Nat.reduceAdd, Nat.reduceEqDiff, Nat.reduceDiv, Nat.reduceLT, Nat.reduceLeDiff, Nat.zero_add, reduceCtorEq, Bool.false_eq_true, Option.toList_some, Option.toList_none, List.cons_append, List.nil_append, not_true_eq_false, not_false_eq_true, Nat.sub_zero, dsX7_fill, jsX7_fill, xcX7_fill, cp', i10, nI_1]
          refine ih (j + 1) U2 (plc S.1 S.2.2.1 r.1 r.2 (tj, vj)).2 (tj + st) (vj + ri) (by omega) (hC.tr hC2) (hI.tr hI2) hS2 ?_ ?_ ?_ he2
          · rw [lN_succ, Int64.mul_add, Int64.mul_one, ← Int64.add_assoc, ht, l_add (by omega) (by omega)]
          · rw [lN_succ, Int64.mul_add, Int64.mul_one, ← Int64.add_assoc, hv]
          · rw [he1]; congr 1; show j + (_ + 1) = _; omega
        · have cp' : ¬ (plc (setBL S r).1 (setBL S r).2.2.1 (setBL S r).2.2.2.1 (setBL S r).2.2.2.2 (tj, vj)).1 = 1 := cp
          rw [if_neg cp] at he1 he2
          have hz : nI j + 0 = nI j := Int32.add_zero _
          refine e_g2 hG [(61, [0, 1, 2, 3, 4, 6, 8, 9, 10])] 60 ?_
          simp only [e_wp_s, Option.getD_some, Option.isSome_some, Option.isSome_none, xis0, xis1, xis2, xis3, xis4, e_ks, lk_k, lk_c, List.lookup_nil, gt_c, vi_i, k1_n, k1_c, k2_n, k2_c, ar_n, ar_c, pk_n, pk_c, rm_0, rm_1, rm_2, rm_3, rm_4, rm_5, rc_9, rcs, fvs, rf_s, rf_n, isI_i, isL_l, isR_r, isR_n, isR_q, ct_i, ct_l, ct_r, ct_n, ct_q, tFs, tCs, tKs, tJs, tSs, e_nf, lgs, ↓reduceIte, true_and, and_true, false_and, and_false, or_true, true_or, false_or, or_false, Nat.reduceAdd, Nat.reduceEqDiff, Nat.reduceDiv, Nat.reduceLT, Nat.reduceLeDiff, Nat.zero_add, reduceCtorEq, Bool.false_eq_true, Option.toList_some, Option.toList_none, List.cons_append, List.nil_append, not_true_eq_false, not_false_eq_true, Nat.sub_zero, dsX7_fill, jsX7_fill, xcX7_fill, cp', i10, hz]
          refine e_g2 hG [] 60 ?_
          simp only [e_wp_s, Option.getD_some, Option.isSome_some, Option.isSome_none, xis0, xis1, xis2, xis3, xis4, e_ks, lk_k, lk_c, List.lookup_nil, gt_c, vi_i, k1_n, k1_c, k2_n, k2_c, ar_n, ar_c, pk_n, pk_c, rm_0, rm_1, rm_2, rm_3, rm_4, rm_5, rc_9, rcs, fvs, rf_s, rf_n, isI_i, isL_l, isR_r, isR_n, isR_q, ct_i, ct_l, ct_r, ct_n, ct_q, tFs, tCs, tKs, tJs, tSs, e_nf, lgs, ↓reduceIte, true_and, and_true, false_and, and_false, or_true, true_or, false_or, or_false, Nat.reduceAdd, Nat.reduceEqDiff, Nat.reduceDiv, Nat.reduceLT, Nat.reduceLeDiff, Nat.zero_add, reduceCtorEq, Bool.false_eq_true, Option.toList_some, Option.toList_none, List.cons_append, List.nil_append, not_true_eq_false, not_false_eq_true, Nat.sub_zero, dsX7_fill, jsX7_fill, xcX7_fill, e1]
          have hC3 := hC.tr hC2
          have := hq U2 (hR.mut h3 hC3 (hI.tr hI2) (by decide) (S' := setBL S (flc S.1 S.2.2.1 st ri c' S.2.2.2 t v).2) (by rw [he2]; exact hS2)) hC3.2.2.2.1
          rw [he1] at this
          exact this
    refine e_g2 hG [(61, [0, 1, 2, 3, 4, 6, 8, 9, 10])] 60 ?_
    simp only [e_wp_s, Option.getD_some, Option.isSome_some, Option.isSome_none, xis0, xis1, xis2, xis3, xis4, e_ks, lk_k, lk_c, List.lookup_nil, gt_c, vi_i, k1_n, k1_c, k2_n, k2_c, ar_n, ar_c, pk_n, pk_c, rm_0, rm_1, rm_2, rm_3, rm_4, rm_5, rc_9, rcs, fvs, rf_s, rf_n, isI_i, isL_l, isR_r, isR_n, isR_q, ct_i, ct_l, ct_r, ct_n, ct_q, tFs, tCs, tKs, tJs, tSs, e_nf, lgs, ↓reduceIte, true_and, and_true, false_and, and_false, or_true, true_or, false_or, or_false, Nat.reduceAdd, Nat.reduceEqDiff, Nat.reduceDiv, Nat.reduceLT, Nat.reduceLeDiff, Nat.zero_add, reduceCtorEq, Bool.false_eq_true, Option.toList_some, Option.toList_none, List.cons_append, List.nil_append, not_true_eq_false, not_false_eq_true, Nat.sub_zero, dsX7_fill, jsX7_fill, xcX7_fill, h0, h6, i10, c1, c2, c3, c4, c5, c6, ↓sp_X7_isSeries]
    exact loop c' 0 M S.2.2.2 t v (by omega) MC.rf MI.rf h4 (by rw [show lN 0 = 0 from rfl, Int64.mul_zero, Int64.add_zero]) (by rw [show lN 0 = 0 from rfl, Int64.mul_zero, Int64.add_zero]) (by rw [Nat.zero_add]) rfl
def csX7_series : CS := cs_0
theorem csoX7_series : ∀ op x na cl sp, csX7_series op x = some (na, cl, sp) → CallOK 7 0 0 op x na cl sp := cs_0_ok
def sp_X7_series : SP := fun as M k n Q => match as with
  | [.ref m, .int kd] => ∃ A O L z, MRp A O M m L z ∧ ∀ U, MRp A O U m (aSeries L kd).2 z → Fr (Ss m) O O M U → Q (some (.int (aSeries L kd).1)) U k n
  | _ => False
theorem okX7_series : OkX7_series sp_X7_series := by
  refine inX7_series csoX7_series ?_
  intro as M k n Q hsp
  unfold sp_X7_series at hsp
  split at hsp
  rotate_left
  · exact hsp.elim
  rename_i m kd
  obtain ⟨A, O, L, z, hR, hq⟩ := hsp
  obtain ⟨hM, hO, ⟨h3, h3'⟩, h4, h5, h6, h7, h8⟩ := id hR
  have h0 := hM.1
  obtain ⟨r225, k225, l225⟩ : mR M 225 m = some (A 225) ∧ mK M (A 225) = 9 ∧ mN M (A 225) = 8 := hM.2 225 rfl
  have n225_226 : ¬ A 225 = A 226 := hO.ne (f := 225) (g := 226) rfl rfl (by decide)
  have n225_227 : ¬ A 225 = A 227 := hO.ne (f := 225) (g := 227) rfl rfl (by decide)
  have n225_228 : ¬ A 225 = A 228 := hO.ne (f := 225) (g := 228) rfl rfl (by decide)
  have n225_229 : ¬ A 225 = A 229 := hO.ne (f := 225) (g := 229) rfl rfl (by decide)
  have n225_230 : ¬ A 225 = A 230 := hO.ne (f := 225) (g := 230) rfl rfl (by decide)
  have n226_225 : ¬ A 226 = A 225 := hO.ne (f := 226) (g := 225) rfl rfl (by decide)
  have n226_227 : ¬ A 226 = A 227 := hO.ne (f := 226) (g := 227) rfl rfl (by decide)
  have n226_228 : ¬ A 226 = A 228 := hO.ne (f := 226) (g := 228) rfl rfl (by decide)
  have n226_229 : ¬ A 226 = A 229 := hO.ne (f := 226) (g := 229) rfl rfl (by decide)
  have n226_230 : ¬ A 226 = A 230 := hO.ne (f := 226) (g := 230) rfl rfl (by decide)
  have n227_225 : ¬ A 227 = A 225 := hO.ne (f := 227) (g := 225) rfl rfl (by decide)
  have n227_226 : ¬ A 227 = A 226 := hO.ne (f := 227) (g := 226) rfl rfl (by decide)
  have n227_228 : ¬ A 227 = A 228 := hO.ne (f := 227) (g := 228) rfl rfl (by decide)
  have n227_229 : ¬ A 227 = A 229 := hO.ne (f := 227) (g := 229) rfl rfl (by decide)
  have n227_230 : ¬ A 227 = A 230 := hO.ne (f := 227) (g := 230) rfl rfl (by decide)
  have n228_225 : ¬ A 228 = A 225 := hO.ne (f := 228) (g := 225) rfl rfl (by decide)
  have n228_226 : ¬ A 228 = A 226 := hO.ne (f := 228) (g := 226) rfl rfl (by decide)
  have n228_227 : ¬ A 228 = A 227 := hO.ne (f := 228) (g := 227) rfl rfl (by decide)
  have n228_229 : ¬ A 228 = A 229 := hO.ne (f := 228) (g := 229) rfl rfl (by decide)
  have n228_230 : ¬ A 228 = A 230 := hO.ne (f := 228) (g := 230) rfl rfl (by decide)
  have n229_225 : ¬ A 229 = A 225 := hO.ne (f := 229) (g := 225) rfl rfl (by decide)
  have n229_226 : ¬ A 229 = A 226 := hO.ne (f := 229) (g := 226) rfl rfl (by decide)
  have n229_227 : ¬ A 229 = A 227 := hO.ne (f := 229) (g := 227) rfl rfl (by decide)
  have n229_228 : ¬ A 229 = A 228 := hO.ne (f := 229) (g := 228) rfl rfl (by decide)
  have n229_230 : ¬ A 229 = A 230 := hO.ne (f := 229) (g := 230) rfl rfl (by decide)
  have n230_225 : ¬ A 230 = A 225 := hO.ne (f := 230) (g := 225) rfl rfl (by decide)
  have n230_226 : ¬ A 230 = A 226 := hO.ne (f := 230) (g := 226) rfl rfl (by decide)
  have n230_227 : ¬ A 230 = A 227 := hO.ne (f := 230) (g := 227) rfl rfl (by decide)
  have n230_228 : ¬ A 230 = A 228 := hO.ne (f := 230) (g := 228) rfl rfl (by decide)
  have n230_229 : ¬ A 230 = A 229 := hO.ne (f := 230) (g := 229) rfl rfl (by decide)
  refine ⟨0, 0, Nat.zero_le _, Nat.zero_le _, Nat.le_of_ble_eq_true rfl, fun G hG => ?_⟩
  unfold aSeries at hq
  by_cases c1 : kd < 0
  · rw [if_pos (Or.inl c1)] at hq
    refine e_g2 hG [] 40 ?_
    simp only [e_wp_s, Option.getD_some, Option.isSome_some, Option.isSome_none, xis0, xis1, xis2, xis3, xis4, e_ks, lk_k, lk_c, List.lookup_nil, gt_c, vi_i, k1_n, k1_c, k2_n, k2_c, ar_n, ar_c, pk_n, pk_c, rm_0, rm_1, rm_2, rm_3, rm_4, rm_5, rc_9, rcs, fvs, rf_s, rf_n, isI_i, isL_l, isR_r, isR_n, isR_q, ct_i, ct_l, ct_r, ct_n, ct_q, tFs, tCs, tKs, tJs, tSs, e_nf, lgs, ↓reduceIte, true_and, and_true, false_and, and_false, or_true, true_or, false_or, or_false, Nat.reduceAdd, Nat.reduceEqDiff, Nat.reduceDiv, Nat.reduceLT, Nat.reduceLeDiff, Nat.zero_add, reduceCtorEq, Bool.false_eq_true, Option.toList_some, Option.toList_none, List.cons_append, List.nil_append, not_true_eq_false, not_false_eq_true, Nat.sub_zero, dsX7_series, jsX7_series, c1]
    exact hq M hR Fr.rf
  by_cases c2 : kd < 4
  · rw [if_neg (fun q => q.elim c1 (fun q => q c2))] at hq
    by_cases c3 : L.length = 8
    · rw [if_pos c3] at hq
      have e1 : nI L.length = 8 := by rw [c3]; rfl
      refine e_g2 hG [] 40 ?_
      simp only [e_wp_s, Option.getD_some, Option.isSome_some, Option.isSome_none, xis0, xis1, xis2, xis3, xis4, e_ks, lk_k, lk_c, List.lookup_nil, gt_c, vi_i, k1_n, k1_c, k2_n, k2_c, ar_n, ar_c, pk_n, pk_c, rm_0, rm_1, rm_2, rm_3, rm_4, rm_5, rc_9, rcs, fvs, rf_s, rf_n, isI_i, isL_l, isR_r, isR_n, isR_q, ct_i, ct_l, ct_r, ct_n, ct_q, tFs, tCs, tKs, tJs, tSs, e_nf, lgs, ↓reduceIte, true_and, and_true, false_and, and_false, or_true, true_or, false_or, or_false, Nat.reduceAdd, Nat.reduceEqDiff, Nat.reduceDiv, Nat.reduceLT, Nat.reduceLeDiff, Nat.zero_add, reduceCtorEq, Bool.false_eq_true, Option.toList_some, Option.toList_none, List.cons_append, List.nil_append, not_true_eq_false, not_false_eq_true, Nat.sub_zero, dsX7_series, jsX7_series, h0, h3, c1, c2, e1, ile]
      exact hq M hR Fr.rf
    · rw [if_neg c3] at hq
      have e1 : ¬ nI L.length = 8 := fun q => c3 ((nI_eq (b := 8) (by omega) (by decide)).mp q)
      have e2 : (nI L.length).toNatClampNeg = L.length := nI_clamp (by omega)
      have e3 : vp_in (nI L.length) 8 := vp_in_nI (by omega) (by decide)
      refine e_g2 hG [] 60 ?_
      simp only [e_wp_s, Option.getD_some, Option.isSome_some, Option.isSome_none, xis0, xis1, xis2, xis3, xis4, e_ks, lk_k, lk_c, List.lookup_nil, gt_c, vi_i, k1_n, k1_c, k2_n, k2_c, ar_n, ar_c, pk_n, pk_c, rm_0, rm_1, rm_2, rm_3, rm_4, rm_5, rc_9, rcs, fvs, rf_s, rf_n, isI_i, isL_l, isR_r, isR_n, isR_q, ct_i, ct_l, ct_r, ct_n, ct_q, tFs, tCs, tKs, tJs, tSs, e_nf, lgs, ↓reduceIte, true_and, and_true, false_and, and_false, or_true, true_or, false_or, or_false, Nat.reduceAdd, Nat.reduceEqDiff, Nat.reduceDiv, Nat.reduceLT, Nat.reduceLeDiff, Nat.zero_add, reduceCtorEq, Bool.false_eq_true, Option.toList_some, Option.toList_none, List.cons_append, List.nil_append, not_true_eq_false, not_false_eq_true, Nat.sub_zero, dsX7_series, jsX7_series, h0, h3, r225, k225, l225, c1, c2, e1, e2, e3, ile, hmK, hmN, hmI, hmL, hmR, haI, haL, haR, nI_1, nI_pred]
      have hC : MC O A m [224, 225] M (sI (tI M (A 225) L.length kd) 224 m (nI (L.length + 1))) := MC.sI (MC.tI MC.rf hO (by decide) rfl) hO (by decide)
      have hI : MI A L.length M (sI (tI M (A 225) L.length kd) 224 m (nI (L.length + 1))) := MI.sI (MI.tI MI.rf hO rfl (Or.inl (Nat.div_one _)))
      obtain ⟨u1, u2, u3, u4, u5⟩ := h5 L.length (Nat.le_refl _) (by omega)
      refine hq _ ⟨hC.ms hM, hO, ⟨?_, ?_⟩, fun s S hS => ?_, fun s hs hs8 => ?_, ?_, ?_, ?_⟩ hC.2.2.2.1
      · simp only [hmI, and_self, if_true, List.length_append]; rfl
      · rw [List.length_append]; simp only [List.length_cons, List.length_nil]; omega
      · by_cases c : s < L.length
        · rw [List.getElem?_append_left c] at hS
          exact (h4 s S hS).mi hI (by omega)
        · rw [List.getElem?_append_right (by omega)] at hS
          have : s = L.length := by
            cases h' : s - L.length with
            | zero => omega
            | succ _ => rw [h'] at hS; simp at hS
          subst this
          rw [Nat.sub_self] at hS
          cases hS
          refine ⟨⟨?_, fun k hk => ?_⟩, ⟨?_, (by show 0 ≤ 300; decide), rfl⟩, ⟨?_, (by show 0 ≤ 300; decide), fun b x hx => (by simp [newSer] at hx), fun x hx => (by simp [newSer] at hx)⟩, ⟨?_, (by show 0 ≤ 40; decide), rfl⟩, ⟨?_, (by show 0 ≤ 60; decide), rfl⟩⟩
          · simp only [haI, and_self, if_true]; rfl
          · simp only [haI, n226_225, false_and, if_false]; rw [u1 k hk]; show (0 : Int32) = -1 + 1; decide
          · simp only [haI, n227_225, false_and, if_false]; rw [u2]; rfl
          · simp only [haI, n228_225, false_and, if_false]; rw [u3]; rfl
          · simp only [haI, n229_225, false_and, if_false]; rw [u4]; rfl
          · simp only [haI, n230_225, false_and, if_false]; rw [u5]; rfl
      · rw [List.length_append] at hs
        simp only [List.length_cons, List.length_nil] at hs
        simp only [haI, n226_225, n227_225, n228_225, n229_225, n230_225, false_and, if_false]
        exact h5 s (by omega) hs8
      · rw [hC.2.2.2.2.2 248 (by decide)]; exact h6
      · rw [hC.2.2.2.2.2 249 (by decide)]; exact h7
      · rw [hC.2.2.2.2.2 250 (by decide)]; exact h8
  · rw [if_pos (Or.inr c2)] at hq
    refine e_g2 hG [] 40 ?_
    simp only [e_wp_s, Option.getD_some, Option.isSome_some, Option.isSome_none, xis0, xis1, xis2, xis3, xis4, e_ks, lk_k, lk_c, List.lookup_nil, gt_c, vi_i, k1_n, k1_c, k2_n, k2_c, ar_n, ar_c, pk_n, pk_c, rm_0, rm_1, rm_2, rm_3, rm_4, rm_5, rc_9, rcs, fvs, rf_s, rf_n, isI_i, isL_l, isR_r, isR_n, isR_q, ct_i, ct_l, ct_r, ct_n, ct_q, tFs, tCs, tKs, tJs, tSs, e_nf, lgs, ↓reduceIte, true_and, and_true, false_and, and_false, or_true, true_or, false_or, or_false, Nat.reduceAdd, Nat.reduceEqDiff, Nat.reduceDiv, Nat.reduceLT, Nat.reduceLeDiff, Nat.zero_add, reduceCtorEq, Bool.false_eq_true, Option.toList_some, Option.toList_none, List.cons_append, List.nil_append, not_true_eq_false, not_false_eq_true, Nat.sub_zero, dsX7_series, jsX7_series, c1, c2, ile]
    exact hq M hR Fr.rf
def csX7_label : CS := (cs_c 0 103 2 7 sp_X7_isSeries cs_0)
theorem csoX7_label : ∀ op x na cl sp, csX7_label op x = some (na, cl, sp) → CallOK 7 1 21 op x na cl sp := (cs_c_ok (caX7_label_103 okX7_isSeries) cs_0_ok)
theorem xcX7_label : (∀ (Q : QT) (G : GT) (pc : Nat) (L : LV) (a0 a1 : Value) (r : List Value) (M : HM) (k n : Nat), ex_i 7 5 1 false csX7_label Q G (.invokevirtual 103) pc L (a1 :: a0 :: r) M k n = (e_rm r ∧ e_rc M 7 [a0, a1] ∧ sp_X7_isSeries [a0, a1] M k n (fun v M' k' n' => G (pc + 3) L (v.toList ++ r) M' k' n'))) := (fun _ _ _ _ _ _ _ _ _ _ => xv0_2 rfl)
def sp_X7_label : SP := fun as M k n Q => match as with
  | [.ref m, .int i, .int key, .int v] => ∃ A O L z, MRp A O M m L z ∧ ∀ U, MRp A O U m (aLabel L i key v).2 z → Fr (Ss m) O O M U → Q (some (.int (aLabel L i key v).1)) U k n
  | _ => False
theorem okX7_label : OkX7_label sp_X7_label := by
  refine inX7_label csoX7_label ?_
  intro as M k n Q hsp
  unfold sp_X7_label at hsp
  split at hsp
  rotate_left
  · exact hsp.elim
  rename_i m i key v
  obtain ⟨A, O, L, z, hR, hq⟩ := hsp
  have hM := hR.1
  have hO := hR.2.1
  have h0 := hM.1
  obtain ⟨r226, k226, l226⟩ : mR M 226 m = some (A 226) ∧ mK M (A 226) = 9 ∧ mN M (A 226) = 64 := hM.2 226 rfl
  refine ⟨0, 0, Nat.zero_le _, Nat.zero_le _, Nat.le_of_ble_eq_true rfl, fun G hG => ?_⟩
  unfold aLabel at hq
  rcases hR.at_ i with ⟨h1, h2⟩ | ⟨s, S, h1, rfl, h3, h4, h5, h6⟩
  · rw [h1] at hq
    refine e_g2 hG [] 40 ?_
    simp only [e_wp_s, Option.getD_some, Option.isSome_some, Option.isSome_none, xis0, xis1, xis2, xis3, xis4, e_ks, lk_k, lk_c, List.lookup_nil, gt_c, vi_i, k1_n, k1_c, k2_n, k2_c, ar_n, ar_c, pk_n, pk_c, rm_0, rm_1, rm_2, rm_3, rm_4, rm_5, rc_9, rcs, fvs, rf_s, rf_n, isI_i, isL_l, isR_r, isR_n, isR_q, ct_i, ct_l, ct_r, ct_n, ct_q, tFs, tCs, tKs, tJs, tSs, e_nf, lgs, ↓reduceIte, true_and, and_true, false_and, and_false, or_true, true_or, false_or, or_false, Nat.reduceAdd, Nat.reduceEqDiff, Nat.reduceDiv, Nat.reduceLT, Nat.reduceLeDiff, Nat.zero_add, reduceCtorEq, Bool.false_eq_true, Option.toList_some, Option.toList_none, List.cons_append, List.nil_append, not_true_eq_false, not_false_eq_true, Nat.sub_zero, dsX7_label, jsX7_label, xcX7_label, h0, h2, ↓sp_X7_isSeries]
    exact hq M hR Fr.rf
  · simp only [h1, nI_clamp (show s < 2 ^ 31 by omega)] at hq
    by_cases c1 : key < 0
    · rw [if_neg (fun q => q.1.1 c1)] at hq
      refine e_g2 hG [] 40 ?_
      simp only [e_wp_s, Option.getD_some, Option.isSome_some, Option.isSome_none, xis0, xis1, xis2, xis3, xis4, e_ks, lk_k, lk_c, List.lookup_nil, gt_c, vi_i, k1_n, k1_c, k2_n, k2_c, ar_n, ar_c, pk_n, pk_c, rm_0, rm_1, rm_2, rm_3, rm_4, rm_5, rc_9, rcs, fvs, rf_s, rf_n, isI_i, isL_l, isR_r, isR_n, isR_q, ct_i, ct_l, ct_r, ct_n, ct_q, tFs, tCs, tKs, tJs, tSs, e_nf, lgs, ↓reduceIte, true_and, and_true, false_and, and_false, or_true, true_or, false_or, or_false, Nat.reduceAdd, Nat.reduceEqDiff, Nat.reduceDiv, Nat.reduceLT, Nat.reduceLeDiff, Nat.zero_add, reduceCtorEq, Bool.false_eq_true, Option.toList_some, Option.toList_none, List.cons_append, List.nil_append, not_true_eq_false, not_false_eq_true, Nat.sub_zero, dsX7_label, jsX7_label, xcX7_label, h0, h6, i10, c1, ↓sp_X7_isSeries]
      exact hq M hR Fr.rf
    by_cases c2 : key < 8
    · by_cases c3 : v < -1
      · have cn : ¬ (v = -1 ∨ (¬ v < 0 ∧ v < 16)) := fun q => q.elim (fun e => by rw [e] at c3; exact absurd c3 (by decide)) (fun e => e.1 (Int32.lt_trans c3 (by decide)))
        rw [if_neg (fun q => cn q.2)] at hq
        refine e_g2 hG [] 40 ?_
        simp only [e_wp_s, Option.getD_some, Option.isSome_some, Option.isSome_none, xis0, xis1, xis2, xis3, xis4, e_ks, lk_k, lk_c, List.lookup_nil, gt_c, vi_i, k1_n, k1_c, k2_n, k2_c, ar_n, ar_c, pk_n, pk_c, rm_0, rm_1, rm_2, rm_3, rm_4, rm_5, rc_9, rcs, fvs, rf_s, rf_n, isI_i, isL_l, isR_r, isR_n, isR_q, ct_i, ct_l, ct_r, ct_n, ct_q, tFs, tCs, tKs, tJs, tSs, e_nf, lgs, ↓reduceIte, true_and, and_true, false_and, and_false, or_true, true_or, false_or, or_false, Nat.reduceAdd, Nat.reduceEqDiff, Nat.reduceDiv, Nat.reduceLT, Nat.reduceLeDiff, Nat.zero_add, reduceCtorEq, Bool.false_eq_true, Option.toList_some, Option.toList_none, List.cons_append, List.nil_append, not_true_eq_false, not_false_eq_true, Nat.sub_zero, dsX7_label, jsX7_label, xcX7_label, h0, h6, i10, c1, c2, c3, ile, ↓sp_X7_isSeries]
        exact hq M hR Fr.rf
      by_cases c4 : v < 16
      · have cy : v = -1 ∨ (¬ v < 0 ∧ v < 16) := by
          by_cases e : v < 0
          · left
            rw [Int32.lt_iff_toInt_lt] at e c3
            rw [show (0 : Int32).toInt = 0 from rfl] at e
            rw [show (-1 : Int32).toInt = -1 from rfl] at c3
            apply Int32.toInt_inj.mp
            rw [show (-1 : Int32).toInt = -1 from rfl]; omega
          · exact Or.inr ⟨e, c4⟩
        rw [if_pos ⟨⟨c1, c2⟩, cy⟩] at hq
        obtain ⟨kk, hk, rfl⟩ := nI_of c1
        have hk8 := (nI_ltI hk (b := 8) (by decide)).mp c2
        have hL := h4.1.2 kk hk8
        have e4 : (nI (8 * s + kk)).toNatClampNeg = 8 * s + kk := nI_clamp (by omega)
        have e5 : vp_in (nI (8 * s + kk)) 64 := vp_in_nI (by omega) (by decide)
        have hcl : (nI kk).toNatClampNeg = kk := nI_clamp hk
        have hlo : labO S (nI kk) = S.2.1 kk := by unfold labO; rw [if_pos ⟨c1, c2⟩, hcl]
        rw [hlo] at hq
        refine e_g2 hG [] 60 ?_
        simp only [e_wp_s, Option.getD_some, Option.isSome_some, Option.isSome_none, xis0, xis1, xis2, xis3, xis4, e_ks, lk_k, lk_c, List.lookup_nil, gt_c, vi_i, k1_n, k1_c, k2_n, k2_c, ar_n, ar_c, pk_n, pk_c, rm_0, rm_1, rm_2, rm_3, rm_4, rm_5, rc_9, rcs, fvs, rf_s, rf_n, isI_i, isL_l, isR_r, isR_n, isR_q, ct_i, ct_l, ct_r, ct_n, ct_q, tFs, tCs, tKs, tJs, tSs, e_nf, lgs, ↓reduceIte, true_and, and_true, false_and, and_false, or_true, true_or, false_or, or_false, Nat.reduceAdd, Nat.reduceEqDiff, Nat.reduceDiv, Nat.reduceLT, Nat.reduceLeDiff, Nat.zero_add, reduceCtorEq, Bool.false_eq_true, Option.toList_some, Option.toList_none, List.cons_append, List.nil_append, not_true_eq_false, not_false_eq_true, Nat.sub_zero, dsX7_label, jsX7_label, xcX7_label, h0, h6, r226, k226, l226, i10, c1, c2, c3, c4, ile, l8t, e4, e5, hL, ↓sp_X7_isSeries]
        have hC : MC O A m [226] M (tI M (A 226) (8 * s + kk) (v + 1)) := MC.tI MC.rf hO (by decide) rfl
        have hI : MI A s M (tI M (A 226) (8 * s + kk) (v + 1)) := MI.tI MI.rf hO rfl (Or.inl (dq 8 s _ hk8))
        obtain ⟨g1, g2, g3, g4, g5⟩ := h4
        refine hq _ (hR.mut h3 hC hI (by decide) ⟨⟨?_, fun k hk => ?_⟩, hC.mP (by decide) g2, hC.mB (by decide) g3, hC.mT (by decide) g4, hC.mSp (fun f h1 h2 => by intro hf; simp at hf; omega) (by decide) g5⟩) hC.2.2.2.1
        · rw [(hC.2.2.2.2.1 225 rfl (by decide)).1]; exact g1.1
        · simp only [haI, true_and]
          show _ = (if k = (nI kk).toNatClampNeg then v else S.2.1 k) + 1
          rw [hcl]
          by_cases c : k = kk
          · rw [if_pos (by omega), if_pos c]
          · rw [if_neg (by omega), if_neg c]; exact g1.2 k hk
      · have cn : ¬ (v = -1 ∨ (¬ v < 0 ∧ v < 16)) := fun q => q.elim (fun e => c4 (by rw [e]; decide)) (fun e => c4 e.2)
        rw [if_neg (fun q => cn q.2)] at hq
        refine e_g2 hG [] 40 ?_
        simp only [e_wp_s, Option.getD_some, Option.isSome_some, Option.isSome_none, xis0, xis1, xis2, xis3, xis4, e_ks, lk_k, lk_c, List.lookup_nil, gt_c, vi_i, k1_n, k1_c, k2_n, k2_c, ar_n, ar_c, pk_n, pk_c, rm_0, rm_1, rm_2, rm_3, rm_4, rm_5, rc_9, rcs, fvs, rf_s, rf_n, isI_i, isL_l, isR_r, isR_n, isR_q, ct_i, ct_l, ct_r, ct_n, ct_q, tFs, tCs, tKs, tJs, tSs, e_nf, lgs, ↓reduceIte, true_and, and_true, false_and, and_false, or_true, true_or, false_or, or_false, Nat.reduceAdd, Nat.reduceEqDiff, Nat.reduceDiv, Nat.reduceLT, Nat.reduceLeDiff, Nat.zero_add, reduceCtorEq, Bool.false_eq_true, Option.toList_some, Option.toList_none, List.cons_append, List.nil_append, not_true_eq_false, not_false_eq_true, Nat.sub_zero, dsX7_label, jsX7_label, xcX7_label, h0, h6, i10, c1, c2, c3, c4, ile, ↓sp_X7_isSeries]
        exact hq M hR Fr.rf
    · rw [if_neg (fun q => c2 q.1.2)] at hq
      refine e_g2 hG [] 40 ?_
      simp only [e_wp_s, Option.getD_some, Option.isSome_some, Option.isSome_none, xis0, xis1, xis2, xis3, xis4, e_ks, lk_k, lk_c, List.lookup_nil, gt_c, vi_i, k1_n, k1_c, k2_n, k2_c, ar_n, ar_c, pk_n, pk_c, rm_0, rm_1, rm_2, rm_3, rm_4, rm_5, rc_9, rcs, fvs, rf_s, rf_n, isI_i, isL_l, isR_r, isR_n, isR_q, ct_i, ct_l, ct_r, ct_n, ct_q, tFs, tCs, tKs, tJs, tSs, e_nf, lgs, ↓reduceIte, true_and, and_true, false_and, and_false, or_true, true_or, false_or, or_false, Nat.reduceAdd, Nat.reduceEqDiff, Nat.reduceDiv, Nat.reduceLT, Nat.reduceLeDiff, Nat.zero_add, reduceCtorEq, Bool.false_eq_true, Option.toList_some, Option.toList_none, List.cons_append, List.nil_append, not_true_eq_false, not_false_eq_true, Nat.sub_zero, dsX7_label, jsX7_label, xcX7_label, h0, h6, i10, c1, c2, ile, ↓sp_X7_isSeries]
      exact hq M hR Fr.rf
def csX7_match : CS := (cs_c 0 107 4 7 sp_X7_has cs_0)
theorem csoX7_match : ∀ op x na cl sp, csX7_match op x = some (na, cl, sp) → CallOK 7 1 23 op x na cl sp := (cs_c_ok (caX7_match_107 okX7_has) cs_0_ok)
theorem xcX7_match : (∀ (Q : QT) (G : GT) (pc : Nat) (L : LV) (a0 a1 a2 a3 : Value) (r : List Value) (M : HM) (k n : Nat), ex_i 7 8 1 false csX7_match Q G (.invokevirtual 107) pc L (a3 :: a2 :: a1 :: a0 :: r) M k n = (e_rm r ∧ e_rc M 7 [a0, a1, a2, a3] ∧ sp_X7_has [a0, a1, a2, a3] M k n (fun v M' k' n' => G (pc + 3) L (v.toList ++ r) M' k' n'))) := (fun _ _ _ _ _ _ _ _ _ _ _ _ => xv0_4 rfl)
def sp_X7_match : SP := fun as M k n Q => match as with
  | [.ref m, .int key, .int v, .int ot, .int w, .int i] => ∃ A O L z, MRp A O M m L z ∧ Q (some (.int (mtN (mtB key v ot w) i L 0 0))) M k n
  | _ => False
theorem okX7_match : OkX7_match sp_X7_match := by
  refine inX7_match csoX7_match ?_
  intro as M k n Q hsp
  unfold sp_X7_match at hsp
  split at hsp
  rotate_left
  · exact hsp.elim
  rename_i m key v ot w i
  obtain ⟨A, O, L, z, hR, hq⟩ := hsp
  obtain ⟨hM, hO, ⟨kc, h8⟩, h4, -⟩ := id hR
  have h0 := hM.1
  refine ⟨0, 0, Nat.zero_le _, Nat.zero_le _, Nat.le_of_ble_eq_true rfl, fun G hG => ?_⟩
  have sub0 : ∀ c : Nat, (i - nI c = 0) = (nI c = i) := fun c => propext ⟨fun q => by
    have := congrArg (fun y : Int32 => y + nI c) q
    simp only [Int32.sub_add_cancel, Int32.zero_add] at this
    exact this.symm, fun q => by rw [q, Int32.sub_self]⟩
  have dec : ∀ c : Nat, i - nI c + -1 = i - nI (c + 1) := fun c => by
    rw [← nI_1, Int32.sub_eq_add_neg, Int32.sub_eq_add_neg, Int32.neg_add, Int32.add_assoc, Int32.sub_eq_add_neg]
  have loop : ∀ d j c, j + d = L.length → mtN (mtB key v ot w) i (L.drop j) j c = mtN (mtB key v ot w) i L 0 0 → G 7 [(0, .ref m), (1, .int key), (2, .int v), (3, .int ot), (4, .int w), (6, .int (i - nI c)), (7, .int (nI j))] [] M 0 0 := by
    intro d
    induction d with
    | zero =>
      intro j c hj he
      have e1 : ¬ nI j < nI L.length := nI_nlt (by omega) (by omega)
      rw [List.drop_eq_nil_of_le (by omega), mtN] at he
      refine e_g2 hG [] 40 ?_
      simp only [e_wp_s, Option.getD_some, Option.isSome_some, Option.isSome_none, xis0, xis1, xis2, xis3, xis4, e_ks, lk_k, lk_c, List.lookup_nil, gt_c, vi_i, k1_n, k1_c, k2_n, k2_c, ar_n, ar_c, pk_n, pk_c, rm_0, rm_1, rm_2, rm_3, rm_4, rm_5, rc_9, rcs, fvs, rf_s, rf_n, isI_i, isL_l, isR_r, isR_n, isR_q, ct_i, ct_l, ct_r, ct_n, ct_q, tFs, tCs, tKs, tJs, tSs, e_nf, lgs, ↓reduceIte, true_and, and_true, false_and, and_false, or_true, true_or, false_or, or_false, Nat.reduceAdd, Nat.reduceEqDiff, Nat.reduceDiv, Nat.reduceLT, Nat.reduceLeDiff, Nat.zero_add, reduceCtorEq, Bool.false_eq_true, Option.toList_some, Option.toList_none, List.cons_append, List.nil_append, not_true_eq_false, not_false_eq_true, Nat.sub_zero, dsX7_match, jsX7_match, xcX7_match, h0, kc, e1]
      rw [← he] at hq
      exact hq
    | succ d ih =>
      intro j c hj he
      have e1 : nI j < nI L.length := nI_lt (by omega) (by omega)
      obtain ⟨S, hx⟩ : ∃ S, L[j]? = some S := ⟨_, List.getElem?_eq_getElem (by omega)⟩
      have hd : L.drop j = S :: L.drop (j + 1) := by
        have hi := (List.getElem?_eq_some_iff.mp hx).1
        rw [List.drop_eq_getElem_cons hi]
        congr 1
        exact (List.getElem?_eq_some_iff.mp hx).2
      rw [hd, mtN] at he
      have hS := h4 j S hx
      have hit : mtB key v ot w S = true → G 46 [(0, .ref m), (1, .int key), (2, .int v), (3, .int ot), (4, .int w), (6, .int (i - nI c)), (7, .int (nI j))] [] M 0 0 := fun hm => by
        rw [if_pos hm] at he
        by_cases c5 : nI c = i
        · rw [if_pos c5] at he
          have e0 : i - nI c = 0 := by rw [sub0]; exact c5
          refine e_g2 hG [] 40 ?_
          simp only [e_wp_s, Option.getD_some, Option.isSome_some, Option.isSome_none, xis0, xis1, xis2, xis3, xis4, e_ks, lk_k, lk_c, List.lookup_nil, gt_c, vi_i, k1_n, k1_c, k2_n, k2_c, ar_n, ar_c, pk_n, pk_c, rm_0, rm_1, rm_2, rm_3, rm_4, rm_5, rc_9, rcs, fvs, rf_s, rf_n, isI_i, isL_l, isR_r, isR_n, isR_q, ct_i, ct_l, ct_r, ct_n, ct_q, tFs, tCs, tKs, tJs, tSs, e_nf, lgs, ↓reduceIte, true_and, and_true, false_and, and_false, or_true, true_or, false_or, or_false, Nat.reduceAdd, Nat.reduceEqDiff, Nat.reduceDiv, Nat.reduceLT, Nat.reduceLeDiff, Nat.zero_add, reduceCtorEq, Bool.false_eq_true, Option.toList_some, Option.toList_none, List.cons_append, List.nil_append, not_true_eq_false, not_false_eq_true, Nat.sub_zero, dsX7_match, jsX7_match, xcX7_match, e0]
          rw [← he] at hq
          exact hq
        · rw [if_neg c5] at he
          have e0 : ¬ i - nI c = 0 := by rw [sub0]; exact c5
          refine e_g2 hG [(7, [0, 1, 2, 3, 4, 6, 7])] 40 ?_
          simp only [e_wp_s, Option.getD_some, Option.isSome_some, Option.isSome_none, xis0, xis1, xis2, xis3, xis4, e_ks, lk_k, lk_c, List.lookup_nil, gt_c, vi_i, k1_n, k1_c, k2_n, k2_c, ar_n, ar_c, pk_n, pk_c, rm_0, rm_1, rm_2, rm_3, rm_4, rm_5, rc_9, rcs, fvs, rf_s, rf_n, isI_i, isL_l, isR_r, isR_n, isR_q, ct_i, ct_l, ct_r, ct_n, ct_q, tFs, tCs, tKs, tJs, tSs, e_nf, lgs, ↓reduceIte, true_and, and_true, false_and, and_false, or_true, true_or, false_or, or_false, Nat.reduceAdd, Nat.reduceEqDiff, Nat.reduceDiv, Nat.reduceLT, Nat.reduceLeDiff, Nat.zero_add, reduceCtorEq, Bool.false_eq_true, Option.toList_some, Option.toList_none, List.cons_append, List.nil_append, not_true_eq_false, not_false_eq_true, Nat.sub_zero, dsX7_match, jsX7_match, xcX7_match, e0, nI_1, dec]
          exact ih (j + 1) (c + 1) (by omega) he
      have miss : mtB key v ot w S = false → G 57 [(0, .ref m), (1, .int key), (2, .int v), (3, .int ot), (4, .int w), (6, .int (i - nI c)), (7, .int (nI j))] [] M 0 0 := fun hm => by
        rw [hm, if_neg (by decide)] at he
        refine e_g2 hG [(7, [0, 1, 2, 3, 4, 6, 7])] 40 ?_
        simp only [e_wp_s, Option.getD_some, Option.isSome_some, Option.isSome_none, xis0, xis1, xis2, xis3, xis4, e_ks, lk_k, lk_c, List.lookup_nil, gt_c, vi_i, k1_n, k1_c, k2_n, k2_c, ar_n, ar_c, pk_n, pk_c, rm_0, rm_1, rm_2, rm_3, rm_4, rm_5, rc_9, rcs, fvs, rf_s, rf_n, isI_i, isL_l, isR_r, isR_n, isR_q, ct_i, ct_l, ct_r, ct_n, ct_q, tFs, tCs, tKs, tJs, tSs, e_nf, lgs, ↓reduceIte, true_and, and_true, false_and, and_false, or_true, true_or, false_or, or_false, Nat.reduceAdd, Nat.reduceEqDiff, Nat.reduceDiv, Nat.reduceLT, Nat.reduceLeDiff, Nat.zero_add, reduceCtorEq, Bool.false_eq_true, Option.toList_some, Option.toList_none, List.cons_append, List.nil_append, not_true_eq_false, not_false_eq_true, Nat.sub_zero, dsX7_match, jsX7_match, xcX7_match, nI_1]
        exact ih (j + 1) c (by omega) he
      refine e_g2 hG [(24, [0, 1, 2, 3, 4, 6, 7])] 60 ?_
      simp only [e_wp_s, Option.getD_some, Option.isSome_some, Option.isSome_none, xis0, xis1, xis2, xis3, xis4, e_ks, lk_k, lk_c, List.lookup_nil, gt_c, vi_i, k1_n, k1_c, k2_n, k2_c, ar_n, ar_c, pk_n, pk_c, rm_0, rm_1, rm_2, rm_3, rm_4, rm_5, rc_9, rcs, fvs, rf_s, rf_n, isI_i, isL_l, isR_r, isR_n, isR_q, ct_i, ct_l, ct_r, ct_n, ct_q, tFs, tCs, tKs, tJs, tSs, e_nf, lgs, ↓reduceIte, true_and, and_true, false_and, and_false, or_true, true_or, false_or, or_false, Nat.reduceAdd, Nat.reduceEqDiff, Nat.reduceDiv, Nat.reduceLT, Nat.reduceLeDiff, Nat.zero_add, reduceCtorEq, Bool.false_eq_true, Option.toList_some, Option.toList_none, List.cons_append, List.nil_append, not_true_eq_false, not_false_eq_true, Nat.sub_zero, dsX7_match, jsX7_match, xcX7_match, h0, kc, e1]
      refine ⟨A, j, S, hM, by omega, hS.1, rfl, ?_⟩
      by_cases b1 : bear S key v = true
      · rw [if_pos b1]
        by_cases c2 : ot < 0
        · refine e_g2 hG [(46, [0, 1, 2, 3, 4, 6, 7])] 60 ?_
          simp only [e_wp_s, Option.getD_some, Option.isSome_some, Option.isSome_none, xis0, xis1, xis2, xis3, xis4, e_ks, lk_k, lk_c, List.lookup_nil, gt_c, vi_i, k1_n, k1_c, k2_n, k2_c, ar_n, ar_c, pk_n, pk_c, rm_0, rm_1, rm_2, rm_3, rm_4, rm_5, rc_9, rcs, fvs, rf_s, rf_n, isI_i, isL_l, isR_r, isR_n, isR_q, ct_i, ct_l, ct_r, ct_n, ct_q, tFs, tCs, tKs, tJs, tSs, e_nf, lgs, ↓reduceIte, true_and, and_true, false_and, and_false, or_true, true_or, false_or, or_false, Nat.reduceAdd, Nat.reduceEqDiff, Nat.reduceDiv, Nat.reduceLT, Nat.reduceLeDiff, Nat.zero_add, reduceCtorEq, Bool.false_eq_true, Option.toList_some, Option.toList_none, List.cons_append, List.nil_append, not_true_eq_false, not_false_eq_true, Nat.sub_zero, dsX7_match, jsX7_match, xcX7_match, i10, c2]
          exact hit (by unfold mtB; simp [b1, c2])
        · refine e_g2 hG [(40, [0, 1, 2, 3, 4, 6, 7])] 60 ?_
          simp only [e_wp_s, Option.getD_some, Option.isSome_some, Option.isSome_none, xis0, xis1, xis2, xis3, xis4, e_ks, lk_k, lk_c, List.lookup_nil, gt_c, vi_i, k1_n, k1_c, k2_n, k2_c, ar_n, ar_c, pk_n, pk_c, rm_0, rm_1, rm_2, rm_3, rm_4, rm_5, rc_9, rcs, fvs, rf_s, rf_n, isI_i, isL_l, isR_r, isR_n, isR_q, ct_i, ct_l, ct_r, ct_n, ct_q, tFs, tCs, tKs, tJs, tSs, e_nf, lgs, ↓reduceIte, true_and, and_true, false_and, and_false, or_true, true_or, false_or, or_false, Nat.reduceAdd, Nat.reduceEqDiff, Nat.reduceDiv, Nat.reduceLT, Nat.reduceLeDiff, Nat.zero_add, reduceCtorEq, Bool.false_eq_true, Option.toList_some, Option.toList_none, List.cons_append, List.nil_append, not_true_eq_false, not_false_eq_true, Nat.sub_zero, dsX7_match, jsX7_match, xcX7_match, h0, i10, c2]
          refine ⟨A, j, S, hM, by omega, hS.1, rfl, ?_⟩
          by_cases b2 : bear S ot w = true
          · rw [if_pos b2]
            refine e_g2 hG [(46, [0, 1, 2, 3, 4, 6, 7])] 60 ?_
            simp only [e_wp_s, Option.getD_some, Option.isSome_some, Option.isSome_none, xis0, xis1, xis2, xis3, xis4, e_ks, lk_k, lk_c, List.lookup_nil, gt_c, vi_i, k1_n, k1_c, k2_n, k2_c, ar_n, ar_c, pk_n, pk_c, rm_0, rm_1, rm_2, rm_3, rm_4, rm_5, rc_9, rcs, fvs, rf_s, rf_n, isI_i, isL_l, isR_r, isR_n, isR_q, ct_i, ct_l, ct_r, ct_n, ct_q, tFs, tCs, tKs, tJs, tSs, e_nf, lgs, ↓reduceIte, true_and, and_true, false_and, and_false, or_true, true_or, false_or, or_false, Nat.reduceAdd, Nat.reduceEqDiff, Nat.reduceDiv, Nat.reduceLT, Nat.reduceLeDiff, Nat.zero_add, reduceCtorEq, Bool.false_eq_true, Option.toList_some, Option.toList_none, List.cons_append, List.nil_append, not_true_eq_false, not_false_eq_true, Nat.sub_zero, dsX7_match, jsX7_match, xcX7_match, i10]
            exact hit (by unfold mtB; simp [b1, b2])
          · rw [if_neg b2]
            refine e_g2 hG [(57, [0, 1, 2, 3, 4, 6, 7])] 60 ?_
            simp only [e_wp_s, Option.getD_some, Option.isSome_some, Option.isSome_none, xis0, xis1, xis2, xis3, xis4, e_ks, lk_k, lk_c, List.lookup_nil, gt_c, vi_i, k1_n, k1_c, k2_n, k2_c, ar_n, ar_c, pk_n, pk_c, rm_0, rm_1, rm_2, rm_3, rm_4, rm_5, rc_9, rcs, fvs, rf_s, rf_n, isI_i, isL_l, isR_r, isR_n, isR_q, ct_i, ct_l, ct_r, ct_n, ct_q, tFs, tCs, tKs, tJs, tSs, e_nf, lgs, ↓reduceIte, true_and, and_true, false_and, and_false, or_true, true_or, false_or, or_false, Nat.reduceAdd, Nat.reduceEqDiff, Nat.reduceDiv, Nat.reduceLT, Nat.reduceLeDiff, Nat.zero_add, reduceCtorEq, Bool.false_eq_true, Option.toList_some, Option.toList_none, List.cons_append, List.nil_append, not_true_eq_false, not_false_eq_true, Nat.sub_zero, dsX7_match, jsX7_match, xcX7_match, i10]
            exact miss (by unfold mtB; simp [b2, c2])
      · rw [if_neg b1]
        refine e_g2 hG [(57, [0, 1, 2, 3, 4, 6, 7])] 60 ?_
        simp only [e_wp_s, Option.getD_some, Option.isSome_some, Option.isSome_none, xis0, xis1, xis2, xis3, xis4, e_ks, lk_k, lk_c, List.lookup_nil, gt_c, vi_i, k1_n, k1_c, k2_n, k2_c, ar_n, ar_c, pk_n, pk_c, rm_0, rm_1, rm_2, rm_3, rm_4, rm_5, rc_9, rcs, fvs, rf_s, rf_n, isI_i, isL_l, isR_r, isR_n, isR_q, ct_i, ct_l, ct_r, ct_n, ct_q, tFs, tCs, tKs, tJs, tSs, e_nf, lgs, ↓reduceIte, true_and, and_true, false_and, and_false, or_true, true_or, false_or, or_false, Nat.reduceAdd, Nat.reduceEqDiff, Nat.reduceDiv, Nat.reduceLT, Nat.reduceLeDiff, Nat.zero_add, reduceCtorEq, Bool.false_eq_true, Option.toList_some, Option.toList_none, List.cons_append, List.nil_append, not_true_eq_false, not_false_eq_true, Nat.sub_zero, dsX7_match, jsX7_match, xcX7_match, i10]
        exact miss (by unfold mtB; simp [b1])
  refine e_g2 hG [(7, [0, 1, 2, 3, 4, 6, 7])] 40 ?_
  simp only [e_wp_s, Option.getD_some, Option.isSome_some, Option.isSome_none, xis0, xis1, xis2, xis3, xis4, e_ks, lk_k, lk_c, List.lookup_nil, gt_c, vi_i, k1_n, k1_c, k2_n, k2_c, ar_n, ar_c, pk_n, pk_c, rm_0, rm_1, rm_2, rm_3, rm_4, rm_5, rc_9, rcs, fvs, rf_s, rf_n, isI_i, isL_l, isR_r, isR_n, isR_q, ct_i, ct_l, ct_r, ct_n, ct_q, tFs, tCs, tKs, tJs, tSs, e_nf, lgs, ↓reduceIte, true_and, and_true, false_and, and_false, or_true, true_or, false_or, or_false, Nat.reduceAdd, Nat.reduceEqDiff, Nat.reduceDiv, Nat.reduceLT, Nat.reduceLeDiff, Nat.zero_add, reduceCtorEq, Bool.false_eq_true, Option.toList_some, Option.toList_none, List.cons_append, List.nil_append, not_true_eq_false, not_false_eq_true, Nat.sub_zero, dsX7_match, jsX7_match, xcX7_match]
  have hl := loop L.length 0 0 (by omega) rfl
  rw [show i - nI 0 = i from Int32.sub_zero i] at hl
  exact hl
theorem lw01 {w : Int32} (h0 : ¬ w = 0) (h1 : ¬ w = 1) : w < 0 ∨ 1 < w := by
  by_cases c : w < 0
  · exact Or.inl c
  · right
    rw [Int32.lt_iff_toInt_lt] at c ⊢
    rw [show (0 : Int32).toInt = 0 from rfl] at c
    rw [show (1 : Int32).toInt = 1 from rfl]
    have a0 : w.toInt ≠ 0 := fun e => h0 (Int32.toInt_inj.mp (e.trans (show (0 : Int) = (0 : Int32).toInt from rfl)))
    have a1 : w.toInt ≠ 1 := fun e => h1 (Int32.toInt_inj.mp (e.trans (show (1 : Int) = (1 : Int32).toInt from rfl)))
    omega
def csX7_late : CS := (cs_c 0 103 2 7 sp_X7_isSeries cs_0)
theorem csoX7_late : ∀ op x na cl sp, csX7_late op x = some (na, cl, sp) → CallOK 7 1 21 op x na cl sp := (cs_c_ok (caX7_late_103 okX7_isSeries) cs_0_ok)
theorem xcX7_late : (∀ (Q : QT) (G : GT) (pc : Nat) (L : LV) (a0 a1 : Value) (r : List Value) (M : HM) (k n : Nat), ex_i 7 4 2 false csX7_late Q G (.invokevirtual 103) pc L (a1 :: a0 :: r) M k n = (e_rm r ∧ e_rc M 7 [a0, a1] ∧ sp_X7_isSeries [a0, a1] M k n (fun v M' k' n' => G (pc + 3) L (v.toList ++ r) M' k' n'))) := (fun _ _ _ _ _ _ _ _ _ _ => xv0_2 rfl)
def sp_X7_late : SP := fun as M k n Q => match as with
  | [.ref m, .int i, .int j, .int w] => ∃ A O L z, MRp A O M m L z ∧ Q (some (.long (aLate L i j w))) M k n
  | _ => False
theorem okX7_late : OkX7_late sp_X7_late := by
  refine inX7_late csoX7_late ?_
  intro as M k n Q hsp
  unfold sp_X7_late at hsp
  split at hsp
  rotate_left
  · exact hsp.elim
  rename_i m i j w
  obtain ⟨A, O, L, z, hR, hq⟩ := hsp
  have hM := hR.1
  have h0 := hM.1
  obtain ⟨r229, k229, l229⟩ : mR M 229 m = some (A 229) ∧ mK M (A 229) = 9 ∧ mN M (A 229) = 8 := hM.2 229 rfl
  obtain ⟨r233, k233, l233⟩ : mR M 233 m = some (A 233) ∧ mK M (A 233) = 9 ∧ mN M (A 233) = 400 := hM.2 233 rfl
  obtain ⟨r235, k235, l235⟩ : mR M 235 m = some (A 235) ∧ mK M (A 235) = 10 ∧ mN M (A 235) = 400 := hM.2 235 rfl
  refine ⟨0, 0, Nat.zero_le _, Nat.zero_le _, Nat.le_of_ble_eq_true rfl, fun G hG => ?_⟩
  unfold aLate at hq
  rcases hR.at_ i with ⟨h1, h2⟩ | ⟨s, S, h1, rfl, h3, h4, h5, h6⟩
  · rw [h1] at hq
    refine e_g2 hG [] 40 ?_
    simp only [e_wp_s, Option.getD_some, Option.isSome_some, Option.isSome_none, xis0, xis1, xis2, xis3, xis4, e_ks, lk_k, lk_c, List.lookup_nil, gt_c, vi_i, k1_n, k1_c, k2_n, k2_c, ar_n, ar_c, pk_n, pk_c, rm_0, rm_1, rm_2, rm_3, rm_4, rm_5, rc_9, rcs, fvs, rf_s, rf_n, isI_i, isL_l, isR_r, isR_n, isR_q, ct_i, ct_l, ct_r, ct_n, ct_q, tFs, tCs, tKs, tJs, tSs, e_nf, lgs, ↓reduceIte, true_and, and_true, false_and, and_false, or_true, true_or, false_or, or_false, Nat.reduceAdd, Nat.reduceEqDiff, Nat.reduceDiv, Nat.reduceLT, Nat.reduceLeDiff, Nat.zero_add, reduceCtorEq, Bool.false_eq_true, Option.toList_some, Option.toList_none, List.cons_append, List.nil_append, not_true_eq_false, not_false_eq_true, Nat.sub_zero, dsX7_late, jsX7_late, xcX7_late, h0, h2, ↓sp_X7_isSeries]
    exact hq
  · simp only [h1] at hq
    have hT := h4.2.2.2.1
    have ll := hT.1
    have l40 := hT.2.1
    have sc : (nI s).toNatClampNeg = s := nI_clamp (by omega)
    have sv : vp_in (nI s) 8 := vp_in_nI h5 (by decide)
    unfold ltA at hq
    by_cases c : j < 0
    · rw [if_pos c] at hq
      refine e_g2 hG [] 40 ?_
      simp only [e_wp_s, Option.getD_some, Option.isSome_some, Option.isSome_none, xis0, xis1, xis2, xis3, xis4, e_ks, lk_k, lk_c, List.lookup_nil, gt_c, vi_i, k1_n, k1_c, k2_n, k2_c, ar_n, ar_c, pk_n, pk_c, rm_0, rm_1, rm_2, rm_3, rm_4, rm_5, rc_9, rcs, fvs, rf_s, rf_n, isI_i, isL_l, isR_r, isR_n, isR_q, ct_i, ct_l, ct_r, ct_n, ct_q, tFs, tCs, tKs, tJs, tSs, e_nf, lgs, ↓reduceIte, true_and, and_true, false_and, and_false, or_true, true_or, false_or, or_false, Nat.reduceAdd, Nat.reduceEqDiff, Nat.reduceDiv, Nat.reduceLT, Nat.reduceLeDiff, Nat.zero_add, reduceCtorEq, Bool.false_eq_true, Option.toList_some, Option.toList_none, List.cons_append, List.nil_append, not_true_eq_false, not_false_eq_true, Nat.sub_zero, dsX7_late, jsX7_late, xcX7_late, h0, h6, i10, c, ↓sp_X7_isSeries]
      exact hq
    · obtain ⟨j', hj, rfl⟩ := nI_of c
      rw [if_neg c, nI_clamp hj] at hq
      cases hx : S.2.2.2.2[j']? with
      | none =>
        rw [hx] at hq
        have e1 : ¬ nI j' < nI S.2.2.2.2.length := nI_nlt (List.getElem?_eq_none_iff.mp hx) hj
        refine e_g2 hG [] 40 ?_
        simp only [e_wp_s, Option.getD_some, Option.isSome_some, Option.isSome_none, xis0, xis1, xis2, xis3, xis4, e_ks, lk_k, lk_c, List.lookup_nil, gt_c, vi_i, k1_n, k1_c, k2_n, k2_c, ar_n, ar_c, pk_n, pk_c, rm_0, rm_1, rm_2, rm_3, rm_4, rm_5, rc_9, rcs, fvs, rf_s, rf_n, isI_i, isL_l, isR_r, isR_n, isR_q, ct_i, ct_l, ct_r, ct_n, ct_q, tFs, tCs, tKs, tJs, tSs, e_nf, lgs, ↓reduceIte, true_and, and_true, false_and, and_false, or_true, true_or, false_or, or_false, Nat.reduceAdd, Nat.reduceEqDiff, Nat.reduceDiv, Nat.reduceLT, Nat.reduceLeDiff, Nat.zero_add, reduceCtorEq, Bool.false_eq_true, Option.toList_some, Option.toList_none, List.cons_append, List.nil_append, not_true_eq_false, not_false_eq_true, Nat.sub_zero, dsX7_late, jsX7_late, xcX7_late, h0, h6, i10, c, r229, k229, l229, sc, sv, ll, e1, ↓sp_X7_isSeries]
        exact hq
      | some q =>
        rw [hx] at hq
        obtain ⟨w1, w2, w3, w4⟩ := mT_at hT hx
        have e1 : nI j' < nI S.2.2.2.2.length := nI_lt w3 (by omega)
        have e4 : (nI (50 * s + j')).toNatClampNeg = 50 * s + j' := nI_clamp (by omega)
        have e5 : vp_in (nI (50 * s + j')) 400 := vp_in_nI (by omega) (by decide)
        have hq : Q (some (.long (aLat q w))) M k n := hq
        unfold aLat at hq
        by_cases c0 : w = 0
        · subst c0
          have z1 : ¬ (0 : Int32) < 0 := by decide
          have z2 : ¬ (1 : Int32) < 0 := by decide
          refine e_g2 hG [] 60 ?_
          simp only [e_wp_s, Option.getD_some, Option.isSome_some, Option.isSome_none, xis0, xis1, xis2, xis3, xis4, e_ks, lk_k, lk_c, List.lookup_nil, gt_c, vi_i, k1_n, k1_c, k2_n, k2_c, ar_n, ar_c, pk_n, pk_c, rm_0, rm_1, rm_2, rm_3, rm_4, rm_5, rc_9, rcs, fvs, rf_s, rf_n, isI_i, isL_l, isR_r, isR_n, isR_q, ct_i, ct_l, ct_r, ct_n, ct_q, tFs, tCs, tKs, tJs, tSs, e_nf, lgs, ↓reduceIte, true_and, and_true, false_and, and_false, or_true, true_or, false_or, or_false, Nat.reduceAdd, Nat.reduceEqDiff, Nat.reduceDiv, Nat.reduceLT, Nat.reduceLeDiff, Nat.zero_add, reduceCtorEq, Bool.false_eq_true, Option.toList_some, Option.toList_none, List.cons_append, List.nil_append, not_true_eq_false, not_false_eq_true, Nat.sub_zero, dsX7_late, jsX7_late, xcX7_late, h0, h6, i10, c, r229, k229, l229, r233, k233, l233, sc, sv, ll, e1, e4, e5, w1, z1, z2, l50, ↓sp_X7_isSeries]
          simpa using hq
        by_cases c1 : w = 1
        · subst c1
          have z1 : ¬ (1 : Int32) < 0 := by decide
          have z2 : ¬ (1 : Int32) < 1 := by decide
          refine e_g2 hG [] 60 ?_
          simp only [e_wp_s, Option.getD_some, Option.isSome_some, Option.isSome_none, xis0, xis1, xis2, xis3, xis4, e_ks, lk_k, lk_c, List.lookup_nil, gt_c, vi_i, k1_n, k1_c, k2_n, k2_c, ar_n, ar_c, pk_n, pk_c, rm_0, rm_1, rm_2, rm_3, rm_4, rm_5, rc_9, rcs, fvs, rf_s, rf_n, isI_i, isL_l, isR_r, isR_n, isR_q, ct_i, ct_l, ct_r, ct_n, ct_q, tFs, tCs, tKs, tJs, tSs, e_nf, lgs, ↓reduceIte, true_and, and_true, false_and, and_false, or_true, true_or, false_or, or_false, Nat.reduceAdd, Nat.reduceEqDiff, Nat.reduceDiv, Nat.reduceLT, Nat.reduceLeDiff, Nat.zero_add, reduceCtorEq, Bool.false_eq_true, Option.toList_some, Option.toList_none, List.cons_append, List.nil_append, not_true_eq_false, not_false_eq_true, Nat.sub_zero, dsX7_late, jsX7_late, xcX7_late, h0, h6, i10, c, r229, k229, l229, r235, k235, l235, sc, sv, ll, e1, e4, e5, w2, z1, z2, l50, ↓sp_X7_isSeries]
          simpa using hq
        rw [if_neg c0, if_neg c1] at hq
        rcases lw01 c0 c1 with d | d
        · refine e_g2 hG [] 60 ?_
          simp only [e_wp_s, Option.getD_some, Option.isSome_some, Option.isSome_none, xis0, xis1, xis2, xis3, xis4, e_ks, lk_k, lk_c, List.lookup_nil, gt_c, vi_i, k1_n, k1_c, k2_n, k2_c, ar_n, ar_c, pk_n, pk_c, rm_0, rm_1, rm_2, rm_3, rm_4, rm_5, rc_9, rcs, fvs, rf_s, rf_n, isI_i, isL_l, isR_r, isR_n, isR_q, ct_i, ct_l, ct_r, ct_n, ct_q, tFs, tCs, tKs, tJs, tSs, e_nf, lgs, ↓reduceIte, true_and, and_true, false_and, and_false, or_true, true_or, false_or, or_false, Nat.reduceAdd, Nat.reduceEqDiff, Nat.reduceDiv, Nat.reduceLT, Nat.reduceLeDiff, Nat.zero_add, reduceCtorEq, Bool.false_eq_true, Option.toList_some, Option.toList_none, List.cons_append, List.nil_append, not_true_eq_false, not_false_eq_true, Nat.sub_zero, dsX7_late, jsX7_late, xcX7_late, h0, h6, i10, c, r229, k229, l229, sc, sv, ll, e1, d, ↓sp_X7_isSeries]
          exact hq
        · by_cases d0 : w < 0
          · refine e_g2 hG [] 60 ?_
            simp only [e_wp_s, Option.getD_some, Option.isSome_some, Option.isSome_none, xis0, xis1, xis2, xis3, xis4, e_ks, lk_k, lk_c, List.lookup_nil, gt_c, vi_i, k1_n, k1_c, k2_n, k2_c, ar_n, ar_c, pk_n, pk_c, rm_0, rm_1, rm_2, rm_3, rm_4, rm_5, rc_9, rcs, fvs, rf_s, rf_n, isI_i, isL_l, isR_r, isR_n, isR_q, ct_i, ct_l, ct_r, ct_n, ct_q, tFs, tCs, tKs, tJs, tSs, e_nf, lgs, ↓reduceIte, true_and, and_true, false_and, and_false, or_true, true_or, false_or, or_false, Nat.reduceAdd, Nat.reduceEqDiff, Nat.reduceDiv, Nat.reduceLT, Nat.reduceLeDiff, Nat.zero_add, reduceCtorEq, Bool.false_eq_true, Option.toList_some, Option.toList_none, List.cons_append, List.nil_append, not_true_eq_false, not_false_eq_true, Nat.sub_zero, dsX7_late, jsX7_late, xcX7_late, h0, h6, i10, c, r229, k229, l229, sc, sv, ll, e1, d0, ↓sp_X7_isSeries]
            exact hq
          · refine e_g2 hG [] 60 ?_
            simp only [e_wp_s, Option.getD_some, Option.isSome_some, Option.isSome_none, xis0, xis1, xis2, xis3, xis4, e_ks, lk_k, lk_c, List.lookup_nil, gt_c, vi_i, k1_n, k1_c, k2_n, k2_c, ar_n, ar_c, pk_n, pk_c, rm_0, rm_1, rm_2, rm_3, rm_4, rm_5, rc_9, rcs, fvs, rf_s, rf_n, isI_i, isL_l, isR_r, isR_n, isR_q, ct_i, ct_l, ct_r, ct_n, ct_q, tFs, tCs, tKs, tJs, tSs, e_nf, lgs, ↓reduceIte, true_and, and_true, false_and, and_false, or_true, true_or, false_or, or_false, Nat.reduceAdd, Nat.reduceEqDiff, Nat.reduceDiv, Nat.reduceLT, Nat.reduceLeDiff, Nat.zero_add, reduceCtorEq, Bool.false_eq_true, Option.toList_some, Option.toList_none, List.cons_append, List.nil_append, not_true_eq_false, not_false_eq_true, Nat.sub_zero, dsX7_late, jsX7_late, xcX7_late, h0, h6, i10, c, r229, k229, l229, sc, sv, ll, e1, d0, d, ↓sp_X7_isSeries]
            exact hq
def csX7_span : CS := (cs_c 0 103 2 7 sp_X7_isSeries cs_0)
theorem csoX7_span : ∀ op x na cl sp, csX7_span op x = some (na, cl, sp) → CallOK 7 1 21 op x na cl sp := (cs_c_ok (caX7_span_103 okX7_isSeries) cs_0_ok)
theorem xcX7_span : (∀ (Q : QT) (G : GT) (pc : Nat) (L : LV) (a0 a1 : Value) (r : List Value) (M : HM) (k n : Nat), ex_i 7 5 2 false csX7_span Q G (.invokevirtual 103) pc L (a1 :: a0 :: r) M k n = (e_rm r ∧ e_rc M 7 [a0, a1] ∧ sp_X7_isSeries [a0, a1] M k n (fun v M' k' n' => G (pc + 3) L (v.toList ++ r) M' k' n'))) := (fun _ _ _ _ _ _ _ _ _ _ => xv0_2 rfl)
def sp_X7_span : SP := fun as M k n Q => match as with
  | [.ref m, .int i, .int j, .int w] => ∃ A O L z, MRp A O M m L z ∧ Q (some (.long (aSpan L i j w))) M k n
  | _ => False
theorem okX7_span : OkX7_span sp_X7_span := by
  refine inX7_span csoX7_span ?_
  intro as M k n Q hsp
  unfold sp_X7_span at hsp
  split at hsp
  rotate_left
  · exact hsp.elim
  rename_i m i j w
  obtain ⟨A, O, L, z, hR, hq⟩ := hsp
  have hM := hR.1
  have h0 := hM.1
  obtain ⟨r230, k230, l230⟩ : mR M 230 m = some (A 230) ∧ mK M (A 230) = 9 ∧ mN M (A 230) = 8 := hM.2 230 rfl
  obtain ⟨r237, k237, l237⟩ : mR M 237 m = some (A 237) ∧ mK M (A 237) = 9 ∧ mN M (A 237) = 560 := hM.2 237 rfl
  obtain ⟨r238, k238, l238⟩ : mR M 238 m = some (A 238) ∧ mK M (A 238) = 9 ∧ mN M (A 238) = 560 := hM.2 238 rfl
  obtain ⟨r239, k239, l239⟩ : mR M 239 m = some (A 239) ∧ mK M (A 239) = 9 ∧ mN M (A 239) = 560 := hM.2 239 rfl
  obtain ⟨r240, k240, l240⟩ : mR M 240 m = some (A 240) ∧ mK M (A 240) = 10 ∧ mN M (A 240) = 560 := hM.2 240 rfl
  obtain ⟨r241, k241, l241⟩ : mR M 241 m = some (A 241) ∧ mK M (A 241) = 10 ∧ mN M (A 241) = 560 := hM.2 241 rfl
  obtain ⟨r242, k242, l242⟩ : mR M 242 m = some (A 242) ∧ mK M (A 242) = 10 ∧ mN M (A 242) = 560 := hM.2 242 rfl
  obtain ⟨r243, k243, l243⟩ : mR M 243 m = some (A 243) ∧ mK M (A 243) = 10 ∧ mN M (A 243) = 560 := hM.2 243 rfl
  obtain ⟨r244, k244, l244⟩ : mR M 244 m = some (A 244) ∧ mK M (A 244) = 10 ∧ mN M (A 244) = 560 := hM.2 244 rfl
  refine ⟨0, 0, Nat.zero_le _, Nat.zero_le _, Nat.le_of_ble_eq_true rfl, fun G hG => ?_⟩
  unfold aSpan at hq
  rcases hR.at_ i with ⟨h1, h2⟩ | ⟨s, S, h1, rfl, h3, h4, h5, h6⟩
  · rw [h1] at hq
    refine e_g2 hG [] 40 ?_
    simp only [e_wp_s, Option.getD_some, Option.isSome_some, Option.isSome_none, xis0, xis1, xis2, xis3, xis4, e_ks, lk_k, lk_c, List.lookup_nil, gt_c, vi_i, k1_n, k1_c, k2_n, k2_c, ar_n, ar_c, pk_n, pk_c, rm_0, rm_1, rm_2, rm_3, rm_4, rm_5, rc_9, rcs, fvs, rf_s, rf_n, isI_i, isL_l, isR_r, isR_n, isR_q, ct_i, ct_l, ct_r, ct_n, ct_q, tFs, tCs, tKs, tJs, tSs, e_nf, lgs, ↓reduceIte, true_and, and_true, false_and, and_false, or_true, true_or, false_or, or_false, Nat.reduceAdd, Nat.reduceEqDiff, Nat.reduceDiv, Nat.reduceLT, Nat.reduceLeDiff, Nat.zero_add, reduceCtorEq, Bool.false_eq_true, Option.toList_some, Option.toList_none, List.cons_append, List.nil_append, not_true_eq_false, not_false_eq_true, Nat.sub_zero, dsX7_span, jsX7_span, xcX7_span, h0, h2, ↓sp_X7_isSeries]
    exact hq
  · simp only [h1] at hq
    have hS := h4.2.2.2.2
    have ll := hS.1
    have l60 := hS.2.1
    have sc : (nI s).toNatClampNeg = s := nI_clamp (by omega)
    have sv : vp_in (nI s) 8 := vp_in_nI h5 (by decide)
    unfold spA at hq
    by_cases c : j < 0
    · rw [if_pos c] at hq
      refine e_g2 hG [] 40 ?_
      simp only [e_wp_s, Option.getD_some, Option.isSome_some, Option.isSome_none, xis0, xis1, xis2, xis3, xis4, e_ks, lk_k, lk_c, List.lookup_nil, gt_c, vi_i, k1_n, k1_c, k2_n, k2_c, ar_n, ar_c, pk_n, pk_c, rm_0, rm_1, rm_2, rm_3, rm_4, rm_5, rc_9, rcs, fvs, rf_s, rf_n, isI_i, isL_l, isR_r, isR_n, isR_q, ct_i, ct_l, ct_r, ct_n, ct_q, tFs, tCs, tKs, tJs, tSs, e_nf, lgs, ↓reduceIte, true_and, and_true, false_and, and_false, or_true, true_or, false_or, or_false, Nat.reduceAdd, Nat.reduceEqDiff, Nat.reduceDiv, Nat.reduceLT, Nat.reduceLeDiff, Nat.zero_add, reduceCtorEq, Bool.false_eq_true, Option.toList_some, Option.toList_none, List.cons_append, List.nil_append, not_true_eq_false, not_false_eq_true, Nat.sub_zero, dsX7_span, jsX7_span, xcX7_span, h0, h6, i10, c, ↓sp_X7_isSeries]
      exact hq
    · obtain ⟨j', hj, rfl⟩ := nI_of c
      rw [if_neg c, nI_clamp hj] at hq
      cases hx : S.2.2.1[j']? with
      | none =>
        rw [hx] at hq
        have e1 : ¬ nI j' < nI S.2.2.1.length := nI_nlt (List.getElem?_eq_none_iff.mp hx) hj
        refine e_g2 hG [] 40 ?_
        simp only [e_wp_s, Option.getD_some, Option.isSome_some, Option.isSome_none, xis0, xis1, xis2, xis3, xis4, e_ks, lk_k, lk_c, List.lookup_nil, gt_c, vi_i, k1_n, k1_c, k2_n, k2_c, ar_n, ar_c, pk_n, pk_c, rm_0, rm_1, rm_2, rm_3, rm_4, rm_5, rc_9, rcs, fvs, rf_s, rf_n, isI_i, isL_l, isR_r, isR_n, isR_q, ct_i, ct_l, ct_r, ct_n, ct_q, tFs, tCs, tKs, tJs, tSs, e_nf, lgs, ↓reduceIte, true_and, and_true, false_and, and_false, or_true, true_or, false_or, or_false, Nat.reduceAdd, Nat.reduceEqDiff, Nat.reduceDiv, Nat.reduceLT, Nat.reduceLeDiff, Nat.zero_add, reduceCtorEq, Bool.false_eq_true, Option.toList_some, Option.toList_none, List.cons_append, List.nil_append, not_true_eq_false, not_false_eq_true, Nat.sub_zero, dsX7_span, jsX7_span, xcX7_span, h0, h6, i10, c, r230, k230, l230, sc, sv, ll, e1, ↓sp_X7_isSeries]
        exact hq
      | some q =>
        rw [hx] at hq
        obtain ⟨w1, w3, w4⟩ := mSp_at hS hx
        have e1 : nI j' < nI S.2.2.1.length := nI_lt w3 (by omega)
        have e4 : (nI (70 * s + j')).toNatClampNeg = 70 * s + j' := nI_clamp (by omega)
        have e5 : vp_in (nI (70 * s + j')) 560 := vp_in_nI (by omega) (by decide)
        have v0 : aI M (A 237) (70 * s + j') = q.1 := by rw [← w1]; rfl
        have v1 : aI M (A 238) (70 * s + j') = q.2.1 := by rw [← w1]; rfl
        have v2 : aI M (A 239) (70 * s + j') = q.2.2.1 := by rw [← w1]; rfl
        have v3 : aL M (A 240) (70 * s + j') = q.2.2.2.1 := by rw [← w1]; rfl
        have v4 : aL M (A 241) (70 * s + j') = q.2.2.2.2.1 := by rw [← w1]; rfl
        have v5 : aL M (A 242) (70 * s + j') = q.2.2.2.2.2.1 := by rw [← w1]; rfl
        have v6 : aL M (A 243) (70 * s + j') = q.2.2.2.2.2.2.1 := by rw [← w1]; rfl
        have v7 : aL M (A 244) (70 * s + j') = q.2.2.2.2.2.2.2 := by rw [← w1]; rfl
        refine e_g2 hG [] 60 ?_
        simp only [e_wp_s, Option.getD_some, Option.isSome_some, Option.isSome_none, xis0, xis1, xis2, xis3, xis4, e_ks, lk_k, lk_c, List.lookup_nil, gt_c, vi_i, k1_n, k1_c, k2_n, k2_c, ar_n, ar_c, pk_n, pk_c, rm_0, rm_1, rm_2, rm_3, rm_4, rm_5, rc_9, rcs, fvs, rf_s, rf_n, isI_i, isL_l, isR_r, isR_n, isR_q, ct_i, ct_l, ct_r, ct_n, ct_q, tFs, tCs, tKs, tJs, tSs, e_nf, lgs, ↓reduceIte, true_and, and_true, false_and, and_false, or_true, true_or, false_or, or_false, Nat.reduceAdd, Nat.reduceEqDiff, Nat.reduceDiv, Nat.reduceLT, Nat.reduceLeDiff, Nat.zero_add, reduceCtorEq, Bool.false_eq_true, Option.toList_some, Option.toList_none, List.cons_append, List.nil_append, not_true_eq_false, not_false_eq_true, Nat.sub_zero, dsX7_span, jsX7_span, xcX7_span, h0, h6, i10, c, r230, k230, l230, r237, k237, l237, r238, k238, l238, r239, k239, l239, r240, k240, l240, r241, k241, l241, r242, k242, l242, r243, k243, l243, r244, k244, l244, sc, sv, ll, e1, e4, e5, v0, v1, v2, v3, v4, v5, v6, v7, l70, e_tw, e_lw, Int.reduceAdd, tis, ↓sp_X7_isSeries]
        refine ⟨rfl, ?_⟩
        have hq : Q (some (.long (aSpn q w))) M k n := hq
        unfold aSpn at hq
        by_cases c0 : w = 0
        · subst c0; simpa using hq
        by_cases c1 : w = 1
        · subst c1; simpa using hq
        by_cases c2 : w = 2
        · subst c2; simpa using hq
        by_cases c3 : w = 3
        · subst c3; simpa using hq
        by_cases c4 : w = 4
        · subst c4; simpa using hq
        by_cases c5 : w = 5
        · subst c5; simpa using hq
        by_cases c6 : w = 6
        · subst c6; simpa using hq
        by_cases c7 : w = 7
        · subst c7; simpa using hq
        simpa [NOv, c0, c1, c2, c3, c4, c5, c6, c7] using hq
