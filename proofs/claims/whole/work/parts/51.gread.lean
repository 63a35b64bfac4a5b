/-! Gatherer: sizeBelow, stretches, risen, timeAt, init -/
def csX1_sizeBelow : CS := (cs_c 0 114 2 1 sp_X1_timeOf cs_0)
theorem csoX1_sizeBelow : ∀ op x na cl sp, csX1_sizeBelow op x = some (na, cl, sp) → CallOK 1 1 21 op x na cl sp := (cs_c_ok (caX1_sizeBelow_114 okX1_timeOf) cs_0_ok)
theorem xcX1_sizeBelow : (∀ (Q : QT) (G : GT) (pc : Nat) (L : LV) (a0 a1 : Value) (r : List Value) (M : HM) (k n : Nat), ex_i 1 3 1 false csX1_sizeBelow Q G (.invokevirtual 114) pc L (a1 :: a0 :: r) M k n = (e_rm r ∧ e_rc M 1 [a0, a1] ∧ sp_X1_timeOf [a0, a1] M k n (fun v M' k' n' => G (pc + 3) L (v.toList ++ r) M' k' n'))) := (fun _ _ _ _ _ _ _ _ _ _ => xv0_2 rfl)
def sp_X1_sizeBelow : SP := fun as M k n Q => match as with
  | [.ref g, .int t] => ∃ O r l, GP O M r g l ∧ Q (some (.int (nI (lbl t l)))) M k n
  | _ => False
theorem lbl_drop {l : List PT} {i : Nat} {q : PT} {t : Int32} (hx : l[i]? = some q) : l.drop i = q :: l.drop (i + 1) := by
  have hi := (List.getElem?_eq_some_iff.mp hx).1
  rw [List.drop_eq_getElem_cons hi]
  congr 1
  exact (List.getElem?_eq_some_iff.mp hx).2
theorem okX1_sizeBelow : OkX1_sizeBelow sp_X1_sizeBelow := by
  refine inX1_sizeBelow csoX1_sizeBelow ?_
  intro as M k n Q hsp
  unfold sp_X1_sizeBelow at hsp
  split at hsp
  rotate_left
  · exact hsp.elim
  rename_i g t
  obtain ⟨O, r, l, hg, hq⟩ := hsp
  have g0 := hg.1.1
  have g1 := hg.1
  have gc := hg.2.2.1
  have hl := hg.2.2.2.1
  refine ⟨0, 0, Nat.zero_le _, Nat.zero_le _, Nat.le_of_ble_eq_true rfl, fun G hG => ?_⟩
  have loop : ∀ d i, i + d = l.length → i + lbl t (l.drop i) = lbl t l → G 2 [(0, .ref g), (1, .int t), (2, .int (nI i))] [] M 0 0 := by
    intro d
    induction d with
    | zero =>
      intro i hi he
      have e1 : ¬ nI i < nI l.length := nI_nlt (by omega) (by omega)
      rw [List.drop_eq_nil_of_le (by omega)] at he
      refine e_g2 hG [] 40 ?_
      simp only [e_wp_s, Option.getD_some, Option.isSome_some, Option.isSome_none, xis0, xis1, xis2, xis3, xis4, e_ks, lk_k, lk_c, List.lookup_nil, gt_c, vi_i, k1_n, k1_c, k2_n, k2_c, ar_n, ar_c, pk_n, pk_c, rm_0, rm_1, rm_2, rm_3, rm_4, rm_5, rc_9, rcs, fvs, rf_s, rf_n, isI_i, isL_l, isR_r, isR_n, isR_q, ct_i, ct_l, ct_r, ct_n, ct_q, tFs, tCs, tKs, tJs, tSs, e_nf, lgs, ↓reduceIte, true_and, and_true, false_and, and_false, or_true, true_or, false_or, or_false, Nat.reduceAdd, Nat.reduceEqDiff, Nat.reduceDiv, Nat.reduceLT, Nat.reduceLeDiff, Nat.zero_add, reduceCtorEq, Bool.false_eq_true, Option.toList_some, Option.toList_none, List.cons_append, List.nil_append, not_true_eq_false, not_false_eq_true, Nat.sub_zero, dsX1_sizeBelow, jsX1_sizeBelow, xcX1_sizeBelow, g0, gc, e1]
      rw [show i = lbl t l from he]
      exact hq
    | succ d ih =>
      intro i hi he
      have e1 : nI i < nI l.length := nI_lt (by omega) (by omega)
      obtain ⟨q, hx⟩ : ∃ q, l[i]? = some q := ⟨_, List.getElem?_eq_getElem (by omega)⟩
      obtain ⟨t1, t2⟩ := hg.at_ hx
      rw [lbl_drop (t := t) hx, lbl] at he
      by_cases c : q.1 < t
      · rw [if_pos c] at he
        refine e_g2 hG [(2, [0, 1, 2])] 40 ?_
        simp only [e_wp_s, Option.getD_some, Option.isSome_some, Option.isSome_none, xis0, xis1, xis2, xis3, xis4, e_ks, lk_k, lk_c, List.lookup_nil, gt_c, vi_i, k1_n, k1_c, k2_n, k2_c, ar_n, ar_c, pk_n, pk_c, rm_0, rm_1, rm_2, rm_3, rm_4, rm_5, rc_9, rcs, fvs, rf_s, rf_n, isI_i, isL_l, isR_r, isR_n, isR_q, ct_i, ct_l, ct_r, ct_n, ct_q, tFs, tCs, tKs, tJs, tSs, e_nf, lgs, ↓reduceIte, true_and, and_true, false_and, and_false, or_true, true_or, false_or, or_false, Nat.reduceAdd, Nat.reduceEqDiff, Nat.reduceDiv, Nat.reduceLT, Nat.reduceLeDiff, Nat.zero_add, reduceCtorEq, Bool.false_eq_true, Option.toList_some, Option.toList_none, List.cons_append, List.nil_append, not_true_eq_false, not_false_eq_true, Nat.sub_zero, dsX1_sizeBelow, jsX1_sizeBelow, xcX1_sizeBelow, g0, g1, gc, e1, t1, c, nI_1, ↓sp_X1_timeOf]
        exact ih (i + 1) (by omega) (by omega)
      · rw [if_neg c] at he
        refine e_g2 hG [] 40 ?_
        simp only [e_wp_s, Option.getD_some, Option.isSome_some, Option.isSome_none, xis0, xis1, xis2, xis3, xis4, e_ks, lk_k, lk_c, List.lookup_nil, gt_c, vi_i, k1_n, k1_c, k2_n, k2_c, ar_n, ar_c, pk_n, pk_c, rm_0, rm_1, rm_2, rm_3, rm_4, rm_5, rc_9, rcs, fvs, rf_s, rf_n, isI_i, isL_l, isR_r, isR_n, isR_q, ct_i, ct_l, ct_r, ct_n, ct_q, tFs, tCs, tKs, tJs, tSs, e_nf, lgs, ↓reduceIte, true_and, and_true, false_and, and_false, or_true, true_or, false_or, or_false, Nat.reduceAdd, Nat.reduceEqDiff, Nat.reduceDiv, Nat.reduceLT, Nat.reduceLeDiff, Nat.zero_add, reduceCtorEq, Bool.false_eq_true, Option.toList_some, Option.toList_none, List.cons_append, List.nil_append, not_true_eq_false, not_false_eq_true, Nat.sub_zero, dsX1_sizeBelow, jsX1_sizeBelow, xcX1_sizeBelow, g0, g1, gc, e1, t1, c, nI_1, ↓sp_X1_timeOf]
        rw [show i = lbl t l from he]
        exact hq
  refine e_g2 hG [(2, [0, 1, 2])] 40 ?_
  simp only [e_wp_s, Option.getD_some, Option.isSome_some, Option.isSome_none, xis0, xis1, xis2, xis3, xis4, e_ks, lk_k, lk_c, List.lookup_nil, gt_c, vi_i, k1_n, k1_c, k2_n, k2_c, ar_n, ar_c, pk_n, pk_c, rm_0, rm_1, rm_2, rm_3, rm_4, rm_5, rc_9, rcs, fvs, rf_s, rf_n, isI_i, isL_l, isR_r, isR_n, isR_q, ct_i, ct_l, ct_r, ct_n, ct_q, tFs, tCs, tKs, tJs, tSs, e_nf, lgs, ↓reduceIte, true_and, and_true, false_and, and_false, or_true, true_or, false_or, or_false, Nat.reduceAdd, Nat.reduceEqDiff, Nat.reduceDiv, Nat.reduceLT, Nat.reduceLeDiff, Nat.zero_add, reduceCtorEq, Bool.false_eq_true, Option.toList_some, Option.toList_none, List.cons_append, List.nil_append, not_true_eq_false, not_false_eq_true, Nat.sub_zero, dsX1_sizeBelow, jsX1_sizeBelow, xcX1_sizeBelow]
  exact loop l.length 0 (by omega) (by rw [Nat.zero_add]; rfl)
/-- in how many stretches of a width points are -/
def stp (w : Int32) : PT → List PT → Nat
  | _, [] => 0
  | p, q :: l => (if q.1 / w = p.1 / w then 0 else 1) + stp w q l
def strN (w : Int32) : List PT → Nat
  | [] => 0
  | p :: l => 1 + stp w p l
def csX1_stretches : CS := (cs_c 0 114 2 1 sp_X1_timeOf cs_0)
theorem csoX1_stretches : ∀ op x na cl sp, csX1_stretches op x = some (na, cl, sp) → CallOK 1 1 21 op x na cl sp := (cs_c_ok (caX1_stretches_114 okX1_timeOf) cs_0_ok)
theorem xcX1_stretches : (∀ (Q : QT) (G : GT) (pc : Nat) (L : LV) (a0 a1 : Value) (r : List Value) (M : HM) (k n : Nat), ex_i 1 5 1 false csX1_stretches Q G (.invokevirtual 114) pc L (a1 :: a0 :: r) M k n = (e_rm r ∧ e_rc M 1 [a0, a1] ∧ sp_X1_timeOf [a0, a1] M k n (fun v M' k' n' => G (pc + 3) L (v.toList ++ r) M' k' n'))) := (fun _ _ _ _ _ _ _ _ _ _ => xv0_2 rfl)
def sp_X1_stretches : SP := fun as M k n Q => match as with
  | [.ref g, .int b, .int w] => ∃ O r l j, GP O M r g l ∧ b = nI j ∧ j ≤ l.length ∧ ¬ w < 1 ∧ Q (some (.int (nI (strN w (l.take j))))) M k n
  | _ => False
theorem okX1_stretches : OkX1_stretches sp_X1_stretches := by
  refine inX1_stretches csoX1_stretches ?_
  intro as M k n Q hsp
  unfold sp_X1_stretches at hsp
  split at hsp
  rotate_left
  · exact hsp.elim
  rename_i g b w
  obtain ⟨O, r, l, j, hg, rfl, hj, hw, hq⟩ := hsp
  have g0 := hg.1.1
  have g1 := hg.1
  have hl := hg.2.2.2.1
  have hw0 : ¬ w = 0 := fun e => hw (by rw [e]; decide)
  refine ⟨0, 0, Nat.zero_le _, Nat.zero_le _, Nat.le_of_ble_eq_true rfl, fun G hG => ?_⟩
  have loop : ∀ d i c p, i + d = j → 0 < i → l[i - 1]? = some p → c + stp w p ((l.take j).drop i) = strN w (l.take j) → G 12 [(0, .ref g), (1, .int (nI j)), (2, .int w), (3, .int (nI c)), (4, .int (nI i))] [] M 0 0 := by
    intro d
    induction d with
    | zero =>
      intro i c p hi h0 hp he
      have e1 : ¬ nI i < nI j := nI_nlt (by omega) (by omega)
      rw [List.drop_eq_nil_of_le (by rw [List.length_take]; omega), stp, Nat.add_zero] at he
      refine e_g2 hG [] 40 ?_
      simp only [e_wp_s, Option.getD_some, Option.isSome_some, Option.isSome_none, xis0, xis1, xis2, xis3, xis4, e_ks, lk_k, lk_c, List.lookup_nil, gt_c, vi_i, k1_n, k1_c, k2_n, k2_c, ar_n, ar_c, pk_n, pk_c, rm_0, rm_1, rm_2, rm_3, rm_4, rm_5, rc_9, rcs, fvs, rf_s, rf_n, isI_i, isL_l, isR_r, isR_n, isR_q, ct_i, ct_l, ct_r, ct_n, ct_q, tFs, tCs, tKs, tJs, tSs, e_nf, lgs, ↓reduceIte, true_and, and_true, false_and, and_false, or_true, true_or, false_or, or_false, Nat.reduceAdd, Nat.reduceEqDiff, Nat.reduceDiv, Nat.reduceLT, Nat.reduceLeDiff, Nat.zero_add, reduceCtorEq, Bool.false_eq_true, Option.toList_some, Option.toList_none, List.cons_append, List.nil_append, not_true_eq_false, not_false_eq_true, Nat.sub_zero, dsX1_stretches, jsX1_stretches, xcX1_stretches, e1]
      rw [he]
      exact hq
    | succ d ih =>
      intro i c p hi h0 hp he
      have e1 : nI i < nI j := nI_lt (by omega) (by omega)
      have e2 : ¬ nI i = 0 := nI_ne0 h0 (by omega)
      have e3 : nI i - 1 = nI (i - 1) := by rw [show i = (i - 1) + 1 by omega, nI_pred]; rfl
      obtain ⟨q, hx⟩ : ∃ q, l[i]? = some q := ⟨_, List.getElem?_eq_getElem (by omega)⟩
      obtain ⟨t1, t2⟩ := hg.at_ hx
      obtain ⟨u1, u2⟩ := hg.at_ hp
      have hx2 : (l.take j)[i]? = some q := by rw [List.getElem?_take, if_pos (by omega)]; exact hx
      rw [lbl_drop (t := 0) hx2, stp] at he
      by_cases cc : q.1 / w = p.1 / w
      · rw [if_pos cc, Nat.zero_add] at he
        refine e_g2 hG [(12, [0, 1, 2, 3, 4])] 40 ?_
        simp only [e_wp_s, Option.getD_some, Option.isSome_some, Option.isSome_none, xis0, xis1, xis2, xis3, xis4, e_ks, lk_k, lk_c, List.lookup_nil, gt_c, vi_i, k1_n, k1_c, k2_n, k2_c, ar_n, ar_c, pk_n, pk_c, rm_0, rm_1, rm_2, rm_3, rm_4, rm_5, rc_9, rcs, fvs, rf_s, rf_n, isI_i, isL_l, isR_r, isR_n, isR_q, ct_i, ct_l, ct_r, ct_n, ct_q, tFs, tCs, tKs, tJs, tSs, e_nf, lgs, ↓reduceIte, true_and, and_true, false_and, and_false, or_true, true_or, false_or, or_false, Nat.reduceAdd, Nat.reduceEqDiff, Nat.reduceDiv, Nat.reduceLT, Nat.reduceLeDiff, Nat.zero_add, reduceCtorEq, Bool.false_eq_true, Option.toList_some, Option.toList_none, List.cons_append, List.nil_append, not_true_eq_false, not_false_eq_true, Nat.sub_zero, dsX1_stretches, jsX1_stretches, xcX1_stretches, e1, e2, e3, g0, g1, t1, u1, cc, hw0, nI_1, ↓sp_X1_timeOf]
        exact ih (i + 1) c q (by omega) (by omega) hx he
      · rw [if_neg cc] at he
        refine e_g2 hG [(12, [0, 1, 2, 3, 4])] 40 ?_
        simp only [e_wp_s, Option.getD_some, Option.isSome_some, Option.isSome_none, xis0, xis1, xis2, xis3, xis4, e_ks, lk_k, lk_c, List.lookup_nil, gt_c, vi_i, k1_n, k1_c, k2_n, k2_c, ar_n, ar_c, pk_n, pk_c, rm_0, rm_1, rm_2, rm_3, rm_4, rm_5, rc_9, rcs, fvs, rf_s, rf_n, isI_i, isL_l, isR_r, isR_n, isR_q, ct_i, ct_l, ct_r, ct_n, ct_q, tFs, tCs, tKs, tJs, tSs, e_nf, lgs, ↓reduceIte, true_and, and_true, false_and, and_false, or_true, true_or, false_or, or_false, Nat.reduceAdd, Nat.reduceEqDiff, Nat.reduceDiv, Nat.reduceLT, Nat.reduceLeDiff, Nat.zero_add, reduceCtorEq, Bool.false_eq_true, Option.toList_some, Option.toList_none, List.cons_append, List.nil_append, not_true_eq_false, not_false_eq_true, Nat.sub_zero, dsX1_stretches, jsX1_stretches, xcX1_stretches, e1, e2, e3, g0, g1, t1, u1, cc, hw0, nI_1, ↓sp_X1_timeOf]
        exact ih (i + 1) (c + 1) q (by omega) (by omega) hx (by omega)
  by_cases cj : j = 0
  · subst cj
    have e1 : ¬ (0 : Int32) < nI 0 := by decide
    refine e_g2 hG [] 40 ?_
    simp only [e_wp_s, Option.getD_some, Option.isSome_some, Option.isSome_none, xis0, xis1, xis2, xis3, xis4, e_ks, lk_k, lk_c, List.lookup_nil, gt_c, vi_i, k1_n, k1_c, k2_n, k2_c, ar_n, ar_c, pk_n, pk_c, rm_0, rm_1, rm_2, rm_3, rm_4, rm_5, rc_9, rcs, fvs, rf_s, rf_n, isI_i, isL_l, isR_r, isR_n, isR_q, ct_i, ct_l, ct_r, ct_n, ct_q, tFs, tCs, tKs, tJs, tSs, e_nf, lgs, ↓reduceIte, true_and, and_true, false_and, and_false, or_true, true_or, false_or, or_false, Nat.reduceAdd, Nat.reduceEqDiff, Nat.reduceDiv, Nat.reduceLT, Nat.reduceLeDiff, Nat.zero_add, reduceCtorEq, Bool.false_eq_true, Option.toList_some, Option.toList_none, List.cons_append, List.nil_append, not_true_eq_false, not_false_eq_true, Nat.sub_zero, dsX1_stretches, jsX1_stretches, xcX1_stretches, hw, e1]
    exact hq
  · have e1 : (0 : Int32) < nI j := nI_lt (a := 0) (by omega) (by omega)
    obtain ⟨q, hx⟩ : ∃ q, l[0]? = some q := ⟨_, List.getElem?_eq_getElem (by omega)⟩
    have hx2 : (l.take j)[0]? = some q := by rw [List.getElem?_take, if_pos (by omega)]; exact hx
    refine e_g2 hG [(12, [0, 1, 2, 3, 4])] 40 ?_
    simp only [e_wp_s, Option.getD_some, Option.isSome_some, Option.isSome_none, xis0, xis1, xis2, xis3, xis4, e_ks, lk_k, lk_c, List.lookup_nil, gt_c, vi_i, k1_n, k1_c, k2_n, k2_c, ar_n, ar_c, pk_n, pk_c, rm_0, rm_1, rm_2, rm_3, rm_4, rm_5, rc_9, rcs, fvs, rf_s, rf_n, isI_i, isL_l, isR_r, isR_n, isR_q, ct_i, ct_l, ct_r, ct_n, ct_q, tFs, tCs, tKs, tJs, tSs, e_nf, lgs, ↓reduceIte, true_and, and_true, false_and, and_false, or_true, true_or, false_or, or_false, Nat.reduceAdd, Nat.reduceEqDiff, Nat.reduceDiv, Nat.reduceLT, Nat.reduceLeDiff, Nat.zero_add, reduceCtorEq, Bool.false_eq_true, Option.toList_some, Option.toList_none, List.cons_append, List.nil_append, not_true_eq_false, not_false_eq_true, Nat.sub_zero, dsX1_stretches, jsX1_stretches, xcX1_stretches, hw]
    refine e_g2 hG [(12, [0, 1, 2, 3, 4])] 40 ?_
    simp only [e_wp_s, Option.getD_some, Option.isSome_some, Option.isSome_none, xis0, xis1, xis2, xis3, xis4, e_ks, lk_k, lk_c, List.lookup_nil, gt_c, vi_i, k1_n, k1_c, k2_n, k2_c, ar_n, ar_c, pk_n, pk_c, rm_0, rm_1, rm_2, rm_3, rm_4, rm_5, rc_9, rcs, fvs, rf_s, rf_n, isI_i, isL_l, isR_r, isR_n, isR_q, ct_i, ct_l, ct_r, ct_n, ct_q, tFs, tCs, tKs, tJs, tSs, e_nf, lgs, ↓reduceIte, true_and, and_true, false_and, and_false, or_true, true_or, false_or, or_false, Nat.reduceAdd, Nat.reduceEqDiff, Nat.reduceDiv, Nat.reduceLT, Nat.reduceLeDiff, Nat.zero_add, reduceCtorEq, Bool.false_eq_true, Option.toList_some, Option.toList_none, List.cons_append, List.nil_append, not_true_eq_false, not_false_eq_true, Nat.sub_zero, dsX1_stretches, jsX1_stretches, xcX1_stretches, e1]
    have h1 := loop (j - 1) 1 1 q (by omega) (by omega) hx (by
      have : l.take j = q :: (l.take j).drop 1 := by
        have h2 := lbl_drop (t := 0) hx2
        rw [List.drop_zero] at h2
        exact h2
      conv => rhs; rw [this, strN])
    exact h1
def rsL : PT → List PT → Int64
  | _, [] => 0
  | p, q :: l => (if q.2 - p.2 < 0 then q.2 else q.2 - p.2) + rsL q l
def rsN : List PT → Int64
  | [] => 0
  | p :: l => rsL p l
def csX1_risen : CS := (cs_c 0 117 2 1 sp_X1_valueAt cs_0)
theorem csoX1_risen : ∀ op x na cl sp, csX1_risen op x = some (na, cl, sp) → CallOK 1 1 21 op x na cl sp := (cs_c_ok (caX1_risen_117 okX1_valueAt) cs_0_ok)
theorem xcX1_risen : (∀ (Q : QT) (G : GT) (pc : Nat) (L : LV) (a0 a1 : Value) (r : List Value) (M : HM) (k n : Nat), ex_i 1 6 2 false csX1_risen Q G (.invokevirtual 117) pc L (a1 :: a0 :: r) M k n = (e_rm r ∧ e_rc M 1 [a0, a1] ∧ sp_X1_valueAt [a0, a1] M k n (fun v M' k' n' => G (pc + 3) L (v.toList ++ r) M' k' n'))) := (fun _ _ _ _ _ _ _ _ _ _ => xv0_2 rfl)
def sp_X1_risen : SP := fun as M k n Q => match as with
  | [.ref g] => ∃ O r l, GP O M r g l ∧ Q (some (.long (rsN l))) M k n
  | _ => False
theorem okX1_risen : OkX1_risen sp_X1_risen := by
  refine inX1_risen csoX1_risen ?_
  intro as M k n Q hsp
  unfold sp_X1_risen at hsp
  split at hsp
  rotate_left
  · exact hsp.elim
  rename_i g
  obtain ⟨O, r, l, hg, hq⟩ := hsp
  have g0 := hg.1.1
  have g1 := hg.1
  have gc := hg.2.2.1
  have hl := hg.2.2.2.1
  refine ⟨0, 0, Nat.zero_le _, Nat.zero_le _, Nat.le_of_ble_eq_true rfl, fun G hG => ?_⟩
  have loop : ∀ d i c p, i + d = l.length → 0 < i → l[i - 1]? = some p → c + rsL p (l.drop i) = rsN l → G 4 [(0, .ref g), (1, .long c), (3, .int (nI i))] [] M 0 0 := by
    intro d
    induction d with
    | zero =>
      intro i c p hi h0 hp he
      have e1 : ¬ nI i < nI l.length := nI_nlt (by omega) (by omega)
      rw [List.drop_eq_nil_of_le (by omega), rsL, Int64.add_zero] at he
      refine e_g2 hG [] 40 ?_
      simp only [e_wp_s, Option.getD_some, Option.isSome_some, Option.isSome_none, xis0, xis1, xis2, xis3, xis4, e_ks, lk_k, lk_c, List.lookup_nil, gt_c, vi_i, k1_n, k1_c, k2_n, k2_c, ar_n, ar_c, pk_n, pk_c, rm_0, rm_1, rm_2, rm_3, rm_4, rm_5, rc_9, rcs, fvs, rf_s, rf_n, isI_i, isL_l, isR_r, isR_n, isR_q, ct_i, ct_l, ct_r, ct_n, ct_q, tFs, tCs, tKs, tJs, tSs, e_nf, lgs, ↓reduceIte, true_and, and_true, false_and, and_false, or_true, true_or, false_or, or_false, Nat.reduceAdd, Nat.reduceEqDiff, Nat.reduceDiv, Nat.reduceLT, Nat.reduceLeDiff, Nat.zero_add, reduceCtorEq, Bool.false_eq_true, Option.toList_some, Option.toList_none, List.cons_append, List.nil_append, not_true_eq_false, not_false_eq_true, Nat.sub_zero, dsX1_risen, jsX1_risen, xcX1_risen, g0, gc, e1]
      rw [he]
      exact hq
    | succ d ih =>
      intro i c p hi h0 hp he
      have e1 : nI i < nI l.length := nI_lt (by omega) (by omega)
      have e3 : nI i - 1 = nI (i - 1) := by rw [show i = (i - 1) + 1 by omega, nI_pred]; rfl
      obtain ⟨q, hx⟩ : ∃ q, l[i]? = some q := ⟨_, List.getElem?_eq_getElem (by omega)⟩
      obtain ⟨t1, t2⟩ := hg.at_ hx
      obtain ⟨u1, u2⟩ := hg.at_ hp
      rw [lbl_drop (t := 0) hx, rsL, ← Int64.add_assoc] at he
      by_cases cc : q.2 - p.2 < 0
      · rw [if_pos cc] at he
        refine e_g2 hG [(4, [0, 1, 3])] 60 ?_
        simp only [e_wp_s, Option.getD_some, Option.isSome_some, Option.isSome_none, xis0, xis1, xis2, xis3, xis4, e_ks, lk_k, lk_c, List.lookup_nil, gt_c, vi_i, k1_n, k1_c, k2_n, k2_c, ar_n, ar_c, pk_n, pk_c, rm_0, rm_1, rm_2, rm_3, rm_4, rm_5, rc_9, rcs, fvs, rf_s, rf_n, isI_i, isL_l, isR_r, isR_n, isR_q, ct_i, ct_l, ct_r, ct_n, ct_q, tFs, tCs, tKs, tJs, tSs, e_nf, lgs, ↓reduceIte, true_and, and_true, false_and, and_false, or_true, true_or, false_or, or_false, Nat.reduceAdd, Nat.reduceEqDiff, Nat.reduceDiv, Nat.reduceLT, Nat.reduceLeDiff, Nat.zero_add, reduceCtorEq, Bool.false_eq_true, Option.toList_some, Option.toList_none, List.cons_append, List.nil_append, not_true_eq_false, not_false_eq_true, Nat.sub_zero, dsX1_risen, jsX1_risen, xcX1_risen, e1, e3, g0, g1, gc, t2, u2, cc, nI_1, ↓sp_X1_valueAt]
        exact ih (i + 1) _ q (by omega) (by omega) hx he
      · rw [if_neg cc] at he
        refine e_g2 hG [(4, [0, 1, 3])] 60 ?_
        simp only [e_wp_s, Option.getD_some, Option.isSome_some, Option.isSome_none, xis0, xis1, xis2, xis3, xis4, e_ks, lk_k, lk_c, List.lookup_nil, gt_c, vi_i, k1_n, k1_c, k2_n, k2_c, ar_n, ar_c, pk_n, pk_c, rm_0, rm_1, rm_2, rm_3, rm_4, rm_5, rc_9, rcs, fvs, rf_s, rf_n, isI_i, isL_l, isR_r, isR_n, isR_q, ct_i, ct_l, ct_r, ct_n, ct_q, tFs, tCs, tKs, tJs, tSs, e_nf, lgs, ↓reduceIte, true_and, and_true, false_and, and_false, or_true, true_or, false_or, or_false, Nat.reduceAdd, Nat.reduceEqDiff, Nat.reduceDiv, Nat.reduceLT, Nat.reduceLeDiff, Nat.zero_add, reduceCtorEq, Bool.false_eq_true, Option.toList_some, Option.toList_none, List.cons_append, List.nil_append, not_true_eq_false, not_false_eq_true, Nat.sub_zero, dsX1_risen, jsX1_risen, xcX1_risen, e1, e3, g0, g1, gc, t2, u2, cc, nI_1, ↓sp_X1_valueAt]
        exact ih (i + 1) _ q (by omega) (by omega) hx he
  refine e_g2 hG [(4, [0, 1, 3])] 40 ?_
  simp only [e_wp_s, Option.getD_some, Option.isSome_some, Option.isSome_none, xis0, xis1, xis2, xis3, xis4, e_ks, lk_k, lk_c, List.lookup_nil, gt_c, vi_i, k1_n, k1_c, k2_n, k2_c, ar_n, ar_c, pk_n, pk_c, rm_0, rm_1, rm_2, rm_3, rm_4, rm_5, rc_9, rcs, fvs, rf_s, rf_n, isI_i, isL_l, isR_r, isR_n, isR_q, ct_i, ct_l, ct_r, ct_n, ct_q, tFs, tCs, tKs, tJs, tSs, e_nf, lgs, ↓reduceIte, true_and, and_true, false_and, and_false, or_true, true_or, false_or, or_false, Nat.reduceAdd, Nat.reduceEqDiff, Nat.reduceDiv, Nat.reduceLT, Nat.reduceLeDiff, Nat.zero_add, reduceCtorEq, Bool.false_eq_true, Option.toList_some, Option.toList_none, List.cons_append, List.nil_append, not_true_eq_false, not_false_eq_true, Nat.sub_zero, dsX1_risen, jsX1_risen, xcX1_risen]
  by_cases cl : l.length = 0
  · have e1 : ¬ (1 : Int32) < nI l.length := by rw [cl]; decide
    have : l = [] := List.length_eq_zero_iff.mp cl
    subst this
    refine e_g2 hG [] 40 ?_
    simp only [e_wp_s, Option.getD_some, Option.isSome_some, Option.isSome_none, xis0, xis1, xis2, xis3, xis4, e_ks, lk_k, lk_c, List.lookup_nil, gt_c, vi_i, k1_n, k1_c, k2_n, k2_c, ar_n, ar_c, pk_n, pk_c, rm_0, rm_1, rm_2, rm_3, rm_4, rm_5, rc_9, rcs, fvs, rf_s, rf_n, isI_i, isL_l, isR_r, isR_n, isR_q, ct_i, ct_l, ct_r, ct_n, ct_q, tFs, tCs, tKs, tJs, tSs, e_nf, lgs, ↓reduceIte, true_and, and_true, false_and, and_false, or_true, true_or, false_or, or_false, Nat.reduceAdd, Nat.reduceEqDiff, Nat.reduceDiv, Nat.reduceLT, Nat.reduceLeDiff, Nat.zero_add, reduceCtorEq, Bool.false_eq_true, Option.toList_some, Option.toList_none, List.cons_append, List.nil_append, not_true_eq_false, not_false_eq_true, Nat.sub_zero, dsX1_risen, jsX1_risen, xcX1_risen, g0, gc, e1]
    exact hq
  · obtain ⟨q, hx⟩ : ∃ q, l[0]? = some q := ⟨_, List.getElem?_eq_getElem (by omega)⟩
    exact loop (l.length - 1) 1 0 q (by omega) (by omega) hx (by
      have : l = q :: l.drop 1 := by
        have h2 := lbl_drop (t := 0) hx
        rw [List.drop_zero] at h2
        exact h2
      conv => rhs; rw [this, rsN]
      rw [Int64.zero_add])
def tmE (b : Int32) : List PT → Int32
  | [] => b
  | q :: _ => if b < q.1 then b else q.1
def tmT (v : Int64) (a : Int32) (p : PT) (e : Int32) : Int64 := if p.2 = v ∧ (if p.1 < a then a else p.1).toInt64 < e.toInt64 then e.toInt64 - (if p.1 < a then a else p.1).toInt64 else 0
def tmA (v : Int64) (a b : Int32) : List PT → Int64
  | [] => 0
  | p :: l => tmT v a p (tmE b l) + tmA v a b l
def csX1_timeAt : CS := (cs_c 0 114 2 1 sp_X1_timeOf (cs_c 2 120 2 9 sp_maxI (cs_c 2 126 2 9 sp_minI (cs_c 0 117 2 1 sp_X1_valueAt cs_0))))
theorem csoX1_timeAt : ∀ op x na cl sp, csX1_timeAt op x = some (na, cl, sp) → CallOK 1 1 21 op x na cl sp := (cs_c_ok (caX1_timeAt_114 okX1_timeOf) (cs_c_ok caX1_timeAt_120 (cs_c_ok caX1_timeAt_126 (cs_c_ok (caX1_timeAt_117 okX1_valueAt) cs_0_ok))))
theorem xcX1_timeAt : (∀ (Q : QT) (G : GT) (pc : Nat) (L : LV) (a0 a1 : Value) (r : List Value) (M : HM) (k n : Nat), ex_i 1 12 2 false csX1_timeAt Q G (.invokevirtual 114) pc L (a1 :: a0 :: r) M k n = (e_rm r ∧ e_rc M 1 [a0, a1] ∧ sp_X1_timeOf [a0, a1] M k n (fun v M' k' n' => G (pc + 3) L (v.toList ++ r) M' k' n'))) ∧ (∀ (Q : QT) (G : GT) (pc : Nat) (L : LV) (a0 a1 : Value) (r : List Value) (M : HM) (k n : Nat), ex_i 1 12 2 false csX1_timeAt Q G (.invokestatic 120) pc L (a1 :: a0 :: r) M k n = (e_rm r ∧ e_rc M 9 [a0, a1] ∧ sp_maxI [a0, a1] M k n (fun v M' k' n' => G (pc + 3) L (v.toList ++ r) M' k' n'))) ∧ (∀ (Q : QT) (G : GT) (pc : Nat) (L : LV) (a0 a1 : Value) (r : List Value) (M : HM) (k n : Nat), ex_i 1 12 2 false csX1_timeAt Q G (.invokestatic 126) pc L (a1 :: a0 :: r) M k n = (e_rm r ∧ e_rc M 9 [a0, a1] ∧ sp_minI [a0, a1] M k n (fun v M' k' n' => G (pc + 3) L (v.toList ++ r) M' k' n'))) ∧ (∀ (Q : QT) (G : GT) (pc : Nat) (L : LV) (a0 a1 : Value) (r : List Value) (M : HM) (k n : Nat), ex_i 1 12 2 false csX1_timeAt Q G (.invokevirtual 117) pc L (a1 :: a0 :: r) M k n = (e_rm r ∧ e_rc M 1 [a0, a1] ∧ sp_X1_valueAt [a0, a1] M k n (fun v M' k' n' => G (pc + 3) L (v.toList ++ r) M' k' n'))) := ⟨(fun _ _ _ _ _ _ _ _ _ _ => xv0_2 rfl), (fun _ _ _ _ _ _ _ _ _ _ => xv2_2 rfl), (fun _ _ _ _ _ _ _ _ _ _ => xv2_2 rfl), (fun _ _ _ _ _ _ _ _ _ _ => xv0_2 rfl)⟩
def sp_X1_timeAt : SP := fun as M k n Q => match as with
  | [.ref g, .long v, .int a, .int b] => ∃ O r l, GP O M r g l ∧ Q (some (.long (tmA v a b l))) M k n
  | _ => False
theorem okX1_timeAt : OkX1_timeAt sp_X1_timeAt := by
  refine inX1_timeAt csoX1_timeAt ?_
  intro as M k n Q hsp
  unfold sp_X1_timeAt at hsp
  split at hsp
  rotate_left
  · exact hsp.elim
  rename_i g v a b
  obtain ⟨O, r, l, hg, hq⟩ := hsp
  have g0 := hg.1.1
  have g1 := hg.1
  have gc := hg.2.2.1
  have hl := hg.2.2.2.1
  refine ⟨0, 0, Nat.zero_le _, Nat.zero_le _, Nat.le_of_ble_eq_true rfl, fun G hG => ?_⟩
  have loop : ∀ d i c, i + d = l.length → c + tmA v a b (l.drop i) = tmA v a b l → G 6 [(0, .ref g), (1, .long v), (3, .int a), (4, .int b), (5, .long c), (7, .int (nI i))] [] M 0 0 := by
    intro d
    induction d with
    | zero =>
      intro i c hi he
      have e1 : ¬ nI i < nI l.length := nI_nlt (by omega) (by omega)
      rw [List.drop_eq_nil_of_le (by omega), tmA, Int64.add_zero] at he
      refine e_g2 hG [] 40 ?_
      simp only [e_wp_s, Option.getD_some, Option.isSome_some, Option.isSome_none, xis0, xis1, xis2, xis3, xis4, e_ks, lk_k, lk_c, List.lookup_nil, gt_c, vi_i, k1_n, k1_c, k2_n, k2_c, ar_n, ar_c, pk_n, pk_c, rm_0, rm_1, rm_2, rm_3, rm_4, rm_5, rc_9, rcs, fvs, rf_s, rf_n, isI_i, isL_l, isR_r, isR_n, isR_q, ct_i, ct_l, ct_r, ct_n, ct_q, tFs, tCs, tKs, tJs, tSs, e_nf, lgs, ↓reduceIte, true_and, and_true, false_and, and_false, or_true, true_or, false_or, or_false, Nat.reduceAdd, Nat.reduceEqDiff, Nat.reduceDiv, Nat.reduceLT, Nat.reduceLeDiff, Nat.zero_add, reduceCtorEq, Bool.false_eq_true, Option.toList_some, Option.toList_none, List.cons_append, List.nil_append, not_true_eq_false, not_false_eq_true, Nat.sub_zero, dsX1_timeAt, jsX1_timeAt, xcX1_timeAt, g0, gc, e1]
      rw [he]
      exact hq
    | succ d ih =>
      intro i c hi he
      have e1 : nI i < nI l.length := nI_lt (by omega) (by omega)
      obtain ⟨p, hx⟩ : ∃ p, l[i]? = some p := ⟨_, List.getElem?_eq_getElem (by omega)⟩
      obtain ⟨t1, t2⟩ := hg.at_ hx
      rw [lbl_drop (t := 0) hx, tmA, ← Int64.add_assoc] at he
      have fin : G 59 [(0, .ref g), (1, .long v), (3, .int a), (4, .int b), (5, .long c), (7, .int (nI i)), (8, .long (if p.1 < a then a else p.1).toInt64)] [.long (tmE b (l.drop (i + 1))).toInt64] M 0 0 := by
        generalize tmE b (l.drop (i + 1)) = E at *
        unfold tmT at he
        generalize (if p.1 < a then a else p.1).toInt64 = B at *
        have ih2 := ih (i + 1) _ (by omega) he
        by_cases c1 : p.2 = v
        · by_cases c2 : B < E.toInt64
          · rw [if_pos ⟨c1, c2⟩] at ih2
            refine e_g2 hG [(6, [0, 1, 3, 4, 5, 7])] 60 ?_
            simp only [e_wp_s, Option.getD_some, Option.isSome_some, Option.isSome_none, xis0, xis1, xis2, xis3, xis4, e_ks, lk_k, lk_c, List.lookup_nil, gt_c, vi_i, k1_n, k1_c, k2_n, k2_c, ar_n, ar_c, pk_n, pk_c, rm_0, rm_1, rm_2, rm_3, rm_4, rm_5, rc_9, rcs, fvs, rf_s, rf_n, isI_i, isL_l, isR_r, isR_n, isR_q, ct_i, ct_l, ct_r, ct_n, ct_q, tFs, tCs, tKs, tJs, tSs, e_nf, lgs, ↓reduceIte, true_and, and_true, false_and, and_false, or_true, true_or, false_or, or_false, Nat.reduceAdd, Nat.reduceEqDiff, Nat.reduceDiv, Nat.reduceLT, Nat.reduceLeDiff, Nat.zero_add, reduceCtorEq, Bool.false_eq_true, Option.toList_some, Option.toList_none, List.cons_append, List.nil_append, not_true_eq_false, not_false_eq_true, Nat.sub_zero, dsX1_timeAt, jsX1_timeAt, xcX1_timeAt, g0, g1, t2, c1, c2, nI_1, ↓sp_X1_valueAt]
            exact ih2
          · rw [if_neg (fun z => c2 z.2), Int64.add_zero] at ih2
            refine e_g2 hG [(6, [0, 1, 3, 4, 5, 7])] 60 ?_
            simp only [e_wp_s, Option.getD_some, Option.isSome_some, Option.isSome_none, xis0, xis1, xis2, xis3, xis4, e_ks, lk_k, lk_c, List.lookup_nil, gt_c, vi_i, k1_n, k1_c, k2_n, k2_c, ar_n, ar_c, pk_n, pk_c, rm_0, rm_1, rm_2, rm_3, rm_4, rm_5, rc_9, rcs, fvs, rf_s, rf_n, isI_i, isL_l, isR_r, isR_n, isR_q, ct_i, ct_l, ct_r, ct_n, ct_q, tFs, tCs, tKs, tJs, tSs, e_nf, lgs, ↓reduceIte, true_and, and_true, false_and, and_false, or_true, true_or, false_or, or_false, Nat.reduceAdd, Nat.reduceEqDiff, Nat.reduceDiv, Nat.reduceLT, Nat.reduceLeDiff, Nat.zero_add, reduceCtorEq, Bool.false_eq_true, Option.toList_some, Option.toList_none, List.cons_append, List.nil_append, not_true_eq_false, not_false_eq_true, Nat.sub_zero, dsX1_timeAt, jsX1_timeAt, xcX1_timeAt, g0, g1, t2, c1, c2, nI_1, ↓sp_X1_valueAt]
            exact ih2
        · rw [if_neg (fun z => c1 z.1), Int64.add_zero] at ih2
          refine e_g2 hG [(6, [0, 1, 3, 4, 5, 7])] 60 ?_
          simp only [e_wp_s, Option.getD_some, Option.isSome_some, Option.isSome_none, xis0, xis1, xis2, xis3, xis4, e_ks, lk_k, lk_c, List.lookup_nil, gt_c, vi_i, k1_n, k1_c, k2_n, k2_c, ar_n, ar_c, pk_n, pk_c, rm_0, rm_1, rm_2, rm_3, rm_4, rm_5, rc_9, rcs, fvs, rf_s, rf_n, isI_i, isL_l, isR_r, isR_n, isR_q, ct_i, ct_l, ct_r, ct_n, ct_q, tFs, tCs, tKs, tJs, tSs, e_nf, lgs, ↓reduceIte, true_and, and_true, false_and, and_false, or_true, true_or, false_or, or_false, Nat.reduceAdd, Nat.reduceEqDiff, Nat.reduceDiv, Nat.reduceLT, Nat.reduceLeDiff, Nat.zero_add, reduceCtorEq, Bool.false_eq_true, Option.toList_some, Option.toList_none, List.cons_append, List.nil_append, not_true_eq_false, not_false_eq_true, Nat.sub_zero, dsX1_timeAt, jsX1_timeAt, xcX1_timeAt, g0, g1, t2, c1, nI_1, ↓sp_X1_valueAt]
          exact ih2
      by_cases cn : i + 1 < l.length
      · obtain ⟨q, hx2⟩ : ∃ q, l[i + 1]? = some q := ⟨_, List.getElem?_eq_getElem cn⟩
        obtain ⟨u1, u2⟩ := hg.at_ hx2
        have e2 : nI (i + 1) < nI l.length := nI_lt cn (by omega)
        rw [lbl_drop (t := 0) hx2, tmE] at fin
        refine e_g2 hG [(59, [0, 1, 3, 4, 5, 7, 8])] 60 ?_
        simp only [e_wp_s, Option.getD_some, Option.isSome_some, Option.isSome_none, xis0, xis1, xis2, xis3, xis4, e_ks, lk_k, lk_c, List.lookup_nil, gt_c, vi_i, k1_n, k1_c, k2_n, k2_c, ar_n, ar_c, pk_n, pk_c, rm_0, rm_1, rm_2, rm_3, rm_4, rm_5, rc_9, rcs, fvs, rf_s, rf_n, isI_i, isL_l, isR_r, isR_n, isR_q, ct_i, ct_l, ct_r, ct_n, ct_q, tFs, tCs, tKs, tJs, tSs, e_nf, lgs, ↓reduceIte, true_and, and_true, false_and, and_false, or_true, true_or, false_or, or_false, Nat.reduceAdd, Nat.reduceEqDiff, Nat.reduceDiv, Nat.reduceLT, Nat.reduceLeDiff, Nat.zero_add, reduceCtorEq, Bool.false_eq_true, Option.toList_some, Option.toList_none, List.cons_append, List.nil_append, not_true_eq_false, not_false_eq_true, Nat.sub_zero, dsX1_timeAt, jsX1_timeAt, xcX1_timeAt, e1, e2, g0, g1, gc, t1, u1, nI_1, ↓sp_X1_timeOf, ↓maxI_e, ↓minI_e]
        exact fin
      · have e2 : ¬ nI (i + 1) < nI l.length := nI_nlt (by omega) (by omega)
        rw [List.drop_eq_nil_of_le (show l.length ≤ i + 1 by omega), tmE] at fin
        refine e_g2 hG [(59, [0, 1, 3, 4, 5, 7, 8])] 60 ?_
        simp only [e_wp_s, Option.getD_some, Option.isSome_some, Option.isSome_none, xis0, xis1, xis2, xis3, xis4, e_ks, lk_k, lk_c, List.lookup_nil, gt_c, vi_i, k1_n, k1_c, k2_n, k2_c, ar_n, ar_c, pk_n, pk_c, rm_0, rm_1, rm_2, rm_3, rm_4, rm_5, rc_9, rcs, fvs, rf_s, rf_n, isI_i, isL_l, isR_r, isR_n, isR_q, ct_i, ct_l, ct_r, ct_n, ct_q, tFs, tCs, tKs, tJs, tSs, e_nf, lgs, ↓reduceIte, true_and, and_true, false_and, and_false, or_true, true_or, false_or, or_false, Nat.reduceAdd, Nat.reduceEqDiff, Nat.reduceDiv, Nat.reduceLT, Nat.reduceLeDiff, Nat.zero_add, reduceCtorEq, Bool.false_eq_true, Option.toList_some, Option.toList_none, List.cons_append, List.nil_append, not_true_eq_false, not_false_eq_true, Nat.sub_zero, dsX1_timeAt, jsX1_timeAt, xcX1_timeAt, e1, e2, g0, g1, gc, t1, nI_1, ↓sp_X1_timeOf, ↓maxI_e, ↓minI_e]
        exact fin
  refine e_g2 hG [(6, [0, 1, 3, 4, 5, 7])] 40 ?_
  simp only [e_wp_s, Option.getD_some, Option.isSome_some, Option.isSome_none, xis0, xis1, xis2, xis3, xis4, e_ks, lk_k, lk_c, List.lookup_nil, gt_c, vi_i, k1_n, k1_c, k2_n, k2_c, ar_n, ar_c, pk_n, pk_c, rm_0, rm_1, rm_2, rm_3, rm_4, rm_5, rc_9, rcs, fvs, rf_s, rf_n, isI_i, isL_l, isR_r, isR_n, isR_q, ct_i, ct_l, ct_r, ct_n, ct_q, tFs, tCs, tKs, tJs, tSs, e_nf, lgs, ↓reduceIte, true_and, and_true, false_and, and_false, or_true, true_or, false_or, or_false, Nat.reduceAdd, Nat.reduceEqDiff, Nat.reduceDiv, Nat.reduceLT, Nat.reduceLeDiff, Nat.zero_add, reduceCtorEq, Bool.false_eq_true, Option.toList_some, Option.toList_none, List.cons_append, List.nil_append, not_true_eq_false, not_false_eq_true, Nat.sub_zero, dsX1_timeAt, jsX1_timeAt, xcX1_timeAt]
  exact loop l.length 0 0 (by omega) (by rw [Int64.zero_add]; rfl)
