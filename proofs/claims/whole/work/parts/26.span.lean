/-! Span -/
def inS (M : HM) (s : Nat) : HM := sL (sL (sL (sL (sL (sI (sI (sI M 160 s 0) 161 s 0) 162 s 0) 163 s 0) 164 s 0) 165 s 0) 166 s 0) 167 s 0
def csX5_init : CS := (cs_c 1 1 1 9 sp_obj cs_0)
theorem csoX5_init : ∀ op x na cl sp, csX5_init op x = some (na, cl, sp) → CallOK 5 1 20 op x na cl sp := (cs_c_ok caX5_init_1 cs_0_ok)
theorem xcX5_init : (∀ (Q : QT) (G : GT) (pc : Nat) (L : LV) (a0 : Value) (r : List Value) (M : HM) (k n : Nat), ex_i 5 1 0 true csX5_init Q G (.invokespecial 1) pc L (a0 :: r) M k n = (e_rm r ∧ e_rc M 9 [a0] ∧ sp_obj [a0] M k n (fun v M' k' n' => G (pc + 3) L (v.toList ++ r) M' k' n'))) := (fun _ _ _ _ _ _ _ _ _ => xv1_1 rfl)
def sp_X5_init : SP := fun as M k n Q => match as with
  | [.ref s] => mK M s = 6 ∧ Q none (inS M s) k n
  | _ => False
theorem okX5_init : OkX5_init sp_X5_init := by
  refine inX5_init csoX5_init ?_
  intro as M k n Q hsp
  unfold sp_X5_init at hsp
  split at hsp
  rotate_left
  · exact hsp.elim
  rename_i s
  obtain ⟨hb, hq⟩ := hsp
  refine ⟨0, 0, Nat.zero_le _, Nat.zero_le _, Nat.le_of_ble_eq_true rfl, fun G hG => ?_⟩
  refine e_g2 hG [] 60 ?_
  simp only [e_wp_s, Option.getD_some, Option.isSome_some, Option.isSome_none, xis0, xis1, xis2, xis3, xis4, e_ks, lk_k, lk_c, List.lookup_nil, gt_c, vi_i, k1_n, k1_c, k2_n, k2_c, ar_n, ar_c, pk_n, pk_c, rm_0, rm_1, rm_2, rm_3, rm_4, rm_5, rc_9, rcs, fvs, rf_s, rf_n, isI_i, isL_l, isR_r, isR_n, isR_q, ct_i, ct_l, ct_r, ct_n, ct_q, tFs, tCs, tKs, tJs, tSs, e_nf, lgs, ↓reduceIte, true_and, and_true, false_and, and_false, or_true, true_or, false_or, or_false, Nat.reduceAdd, Nat.reduceEqDiff, Nat.reduceDiv, Nat.reduceLT, Nat.reduceLeDiff, Nat.zero_add, reduceCtorEq, Bool.false_eq_true, Option.toList_some, Option.toList_none, List.cons_append, List.nil_append, not_true_eq_false, not_false_eq_true, Nat.sub_zero, dsX5_init, xcX5_init, hb, ↓obj_e, hmK, hmN, hmI, hmL, hmR, haI, haL, haR]
  exact hq
def csX5_open : CS := cs_0
theorem csoX5_open : ∀ op x na cl sp, csX5_open op x = some (na, cl, sp) → CallOK 5 0 0 op x na cl sp := cs_0_ok
def sp_X5_open : SP := fun as M k n Q => match as with
  | [.ref s, .int x, .int y] => mK M s = 6 ∧ Q none (sL (sI (sI (sI M 160 s x) 161 s y) 162 s 0) 163 s 0) k n
  | _ => False
theorem okX5_open : OkX5_open sp_X5_open := by
  refine inX5_open csoX5_open ?_
  intro as M k n Q hsp
  unfold sp_X5_open at hsp
  split at hsp
  rotate_left
  · exact hsp.elim
  rename_i s x y
  obtain ⟨hb, hq⟩ := hsp
  refine ⟨0, 0, Nat.zero_le _, Nat.zero_le _, Nat.le_of_ble_eq_true rfl, fun G hG => ?_⟩
  refine e_g2 hG [] 60 ?_
  simp only [e_wp_s, Option.getD_some, Option.isSome_some, Option.isSome_none, xis0, xis1, xis2, xis3, xis4, e_ks, lk_k, lk_c, List.lookup_nil, gt_c, vi_i, k1_n, k1_c, k2_n, k2_c, ar_n, ar_c, pk_n, pk_c, rm_0, rm_1, rm_2, rm_3, rm_4, rm_5, rc_9, rcs, fvs, rf_s, rf_n, isI_i, isL_l, isR_r, isR_n, isR_q, ct_i, ct_l, ct_r, ct_n, ct_q, tFs, tCs, tKs, tJs, tSs, e_nf, lgs, ↓reduceIte, true_and, and_true, false_and, and_false, or_true, true_or, false_or, or_false, Nat.reduceAdd, Nat.reduceEqDiff, Nat.reduceDiv, Nat.reduceLT, Nat.reduceLeDiff, Nat.zero_add, reduceCtorEq, Bool.false_eq_true, Option.toList_some, Option.toList_none, List.cons_append, List.nil_append, not_true_eq_false, not_false_eq_true, Nat.sub_zero, dsX5_open, hb, hmK, hmN, hmI, hmL, hmR, haI, haL, haR]
  exact hq
def tkE (M : HM) (s : Nat) (v : Int64) : HM := sI (sL (sL (sL (sL M 164 s (if v < mL M 164 s then v else mL M 164 s)) 165 s (if v < mL M 165 s then mL M 165 s else v)) 167 s v) 163 s (mL M 163 s + v)) 162 s (mI M 162 s + 1)
def tkM (M : HM) (s : Nat) (v : Int64) : HM := if mI M 162 s = 0 then tkE (sL (sL (sL M 164 s v) 165 s v) 166 s v) s v else tkE M s v
def csX5_take : CS := (cs_c 2 35 2 9 sp_minL (cs_c 2 41 2 9 sp_maxL cs_0))
theorem csoX5_take : ∀ op x na cl sp, csX5_take op x = some (na, cl, sp) → CallOK 5 1 23 op x na cl sp := (cs_c_ok caX5_take_35 (cs_c_ok caX5_take_41 cs_0_ok))
theorem xcX5_take : (∀ (Q : QT) (G : GT) (pc : Nat) (L : LV) (a0 a1 : Value) (r : List Value) (M : HM) (k n : Nat), ex_i 5 3 0 false csX5_take Q G (.invokestatic 35) pc L (a1 :: a0 :: r) M k n = (e_rm r ∧ e_rc M 9 [a0, a1] ∧ sp_minL [a0, a1] M k n (fun v M' k' n' => G (pc + 3) L (v.toList ++ r) M' k' n'))) ∧ (∀ (Q : QT) (G : GT) (pc : Nat) (L : LV) (a0 a1 : Value) (r : List Value) (M : HM) (k n : Nat), ex_i 5 3 0 false csX5_take Q G (.invokestatic 41) pc L (a1 :: a0 :: r) M k n = (e_rm r ∧ e_rc M 9 [a0, a1] ∧ sp_maxL [a0, a1] M k n (fun v M' k' n' => G (pc + 3) L (v.toList ++ r) M' k' n'))) := ⟨(fun _ _ _ _ _ _ _ _ _ _ => xv2_2 rfl), (fun _ _ _ _ _ _ _ _ _ _ => xv2_2 rfl)⟩
def sp_X5_take : SP := fun as M k n Q => match as with
  | [.ref s, .long v] => mK M s = 6 ∧ Q none (tkM M s v) k n
  | _ => False
theorem okX5_take : OkX5_take sp_X5_take := by
  refine inX5_take csoX5_take ?_
  intro as M k n Q hsp
  unfold sp_X5_take at hsp
  split at hsp
  rotate_left
  · exact hsp.elim
  rename_i s v
  obtain ⟨hb, hq⟩ := hsp
  refine ⟨0, 0, Nat.zero_le _, Nat.zero_le _, Nat.le_of_ble_eq_true rfl, fun G hG => ?_⟩
  refine e_g2 hG [] 60 ?_
  simp only [e_wp_s, Option.getD_some, Option.isSome_some, Option.isSome_none, xis0, xis1, xis2, xis3, xis4, e_ks, lk_k, lk_c, List.lookup_nil, gt_c, vi_i, k1_n, k1_c, k2_n, k2_c, ar_n, ar_c, pk_n, pk_c, rm_0, rm_1, rm_2, rm_3, rm_4, rm_5, rc_9, rcs, fvs, rf_s, rf_n, isI_i, isL_l, isR_r, isR_n, isR_q, ct_i, ct_l, ct_r, ct_n, ct_q, tFs, tCs, tKs, tJs, tSs, e_nf, lgs, ↓reduceIte, true_and, and_true, false_and, and_false, or_true, true_or, false_or, or_false, Nat.reduceAdd, Nat.reduceEqDiff, Nat.reduceDiv, Nat.reduceLT, Nat.reduceLeDiff, Nat.zero_add, reduceCtorEq, Bool.false_eq_true, Option.toList_some, Option.toList_none, List.cons_append, List.nil_append, not_true_eq_false, not_false_eq_true, Nat.sub_zero, dsX5_take, jsX5_take, xcX5_take, hb, hmK, hmN, hmI, hmL, hmR, haI, haL, haR, ↓minL_e, ↓maxL_e]
  unfold tkM tkE at hq
  by_cases c : mI M 162 s = 0
  · simp only [c, if_true, hmK, hmN, hmI, hmL, hmR, and_self, if_false, Nat.reduceEqDiff, false_and, ↓reduceIte] at hq ⊢
    exact hq
  · simp only [c, if_false] at hq ⊢
    exact hq
def csX5_isIn : CS := cs_0
theorem csoX5_isIn : ∀ op x na cl sp, csX5_isIn op x = some (na, cl, sp) → CallOK 5 0 0 op x na cl sp := cs_0_ok
def sp_X5_isIn : SP := fun as M k n Q => match as with
  | [.ref s, .int x, .int y] => mK M s = 6 ∧ Q (some (.int (if ¬ mI M 160 s < x ∧ ¬ y < mI M 161 s then 1 else 0))) M k n
  | _ => False
theorem okX5_isIn : OkX5_isIn sp_X5_isIn := by
  refine inX5_isIn csoX5_isIn ?_
  intro as M k n Q hsp
  unfold sp_X5_isIn at hsp
  split at hsp
  rotate_left
  · exact hsp.elim
  rename_i s x y
  obtain ⟨hb, hq⟩ := hsp
  refine ⟨0, 0, Nat.zero_le _, Nat.zero_le _, Nat.le_of_ble_eq_true rfl, fun G hG => ?_⟩
  refine e_g2 hG [] 60 ?_
  simp only [e_wp_s, Option.getD_some, Option.isSome_some, Option.isSome_none, xis0, xis1, xis2, xis3, xis4, e_ks, lk_k, lk_c, List.lookup_nil, gt_c, vi_i, k1_n, k1_c, k2_n, k2_c, ar_n, ar_c, pk_n, pk_c, rm_0, rm_1, rm_2, rm_3, rm_4, rm_5, rc_9, rcs, fvs, rf_s, rf_n, isI_i, isL_l, isR_r, isR_n, isR_q, ct_i, ct_l, ct_r, ct_n, ct_q, tFs, tCs, tKs, tJs, tSs, e_nf, lgs, ↓reduceIte, true_and, and_true, false_and, and_false, or_true, true_or, false_or, or_false, Nat.reduceAdd, Nat.reduceEqDiff, Nat.reduceDiv, Nat.reduceLT, Nat.reduceLeDiff, Nat.zero_add, reduceCtorEq, Bool.false_eq_true, Option.toList_some, Option.toList_none, List.cons_append, List.nil_append, not_true_eq_false, not_false_eq_true, Nat.sub_zero, dsX5_isIn, jsX5_isIn, hb]
  by_cases c1 : mI M 160 s < x <;> by_cases c2 : y < mI M 161 s <;> simpa [c1, c2] using hq
def csX5_isCut : CS := (cs_c 0 44 3 5 sp_X5_isIn cs_0)
theorem csoX5_isCut : ∀ op x na cl sp, csX5_isCut op x = some (na, cl, sp) → CallOK 5 1 22 op x na cl sp := (cs_c_ok (caX5_isCut_44 okX5_isIn) cs_0_ok)
theorem xcX5_isCut : (∀ (Q : QT) (G : GT) (pc : Nat) (L : LV) (a0 a1 a2 : Value) (r : List Value) (M : HM) (k n : Nat), ex_i 5 3 4 false csX5_isCut Q G (.invokevirtual 44) pc L (a2 :: a1 :: a0 :: r) M k n = (e_rm r ∧ e_rc M 5 [a0, a1, a2] ∧ sp_X5_isIn [a0, a1, a2] M k n (fun v M' k' n' => G (pc + 3) L (v.toList ++ r) M' k' n'))) := (fun _ _ _ _ _ _ _ _ _ _ _ => xv0_3 rfl)
def sp_X5_isCut : SP := fun as M k n Q => match as with
  | [.ref s, .int x, .int y] => mK M s = 6 ∧ Q (some (.int (if ¬ (¬ mI M 160 s < x ∧ ¬ y < mI M 161 s) ∧ mI M 160 s < y ∧ x < mI M 161 s then 1 else 0))) M k n
  | _ => False
theorem okX5_isCut : OkX5_isCut sp_X5_isCut := by
  refine inX5_isCut csoX5_isCut ?_
  intro as M k n Q hsp
  unfold sp_X5_isCut at hsp
  split at hsp
  rotate_left
  · exact hsp.elim
  rename_i s x y
  obtain ⟨hb, hq⟩ := hsp
  refine ⟨0, 0, Nat.zero_le _, Nat.zero_le _, Nat.le_of_ble_eq_true rfl, fun G hG => ?_⟩
  refine e_g2 hG [] 60 ?_
  simp only [e_wp_s, Option.getD_some, Option.isSome_some, Option.isSome_none, xis0, xis1, xis2, xis3, xis4, e_ks, lk_k, lk_c, List.lookup_nil, gt_c, vi_i, k1_n, k1_c, k2_n, k2_c, ar_n, ar_c, pk_n, pk_c, rm_0, rm_1, rm_2, rm_3, rm_4, rm_5, rc_9, rcs, fvs, rf_s, rf_n, isI_i, isL_l, isR_r, isR_n, isR_q, ct_i, ct_l, ct_r, ct_n, ct_q, tFs, tCs, tKs, tJs, tSs, e_nf, lgs, ↓reduceIte, true_and, and_true, false_and, and_false, or_true, true_or, false_or, or_false, Nat.reduceAdd, Nat.reduceEqDiff, Nat.reduceDiv, Nat.reduceLT, Nat.reduceLeDiff, Nat.zero_add, reduceCtorEq, Bool.false_eq_true, Option.toList_some, Option.toList_none, List.cons_append, List.nil_append, not_true_eq_false, not_false_eq_true, Nat.sub_zero, dsX5_isCut, jsX5_isCut, xcX5_isCut, hb, ↓sp_X5_isIn]
  by_cases c1 : mI M 160 s < x <;> by_cases c2 : y < mI M 161 s <;> by_cases c3 : mI M 160 s < y <;> by_cases c4 : x < mI M 161 s <;> simpa [c1, c2, c3, c4] using hq
/-! the statics of NumberRiver -/
def csX6_isKey : CS := cs_0
theorem csoX6_isKey : ∀ op x na cl sp, csX6_isKey op x = some (na, cl, sp) → CallOK 6 0 0 op x na cl sp := cs_0_ok
def sp_X6_isKey : SP := fun as M k n Q => match as with
  | [.int x] => Q (some (.int (if ¬ x < 0 ∧ x < 8 then 1 else 0))) M k n
  | _ => False
theorem okX6_isKey : OkX6_isKey sp_X6_isKey := by
  refine inX6_isKey csoX6_isKey ?_
  intro as M k n Q hsp
  unfold sp_X6_isKey at hsp
  split at hsp
  rotate_left
  · exact hsp.elim
  rename_i x
  refine ⟨0, 0, Nat.zero_le _, Nat.zero_le _, Nat.le_of_ble_eq_true rfl, fun G hG => ?_⟩
  refine e_g2 hG [] 60 ?_
  simp only [e_wp_s, Option.getD_some, Option.isSome_some, Option.isSome_none, xis0, xis1, xis2, xis3, xis4, e_ks, lk_k, lk_c, List.lookup_nil, gt_c, vi_i, k1_n, k1_c, k2_n, k2_c, ar_n, ar_c, pk_n, pk_c, rm_0, rm_1, rm_2, rm_3, rm_4, rm_5, rc_9, rcs, fvs, rf_s, rf_n, isI_i, isL_l, isR_r, isR_n, isR_q, ct_i, ct_l, ct_r, ct_n, ct_q, tFs, tCs, tKs, tJs, tSs, e_nf, lgs, ↓reduceIte, true_and, and_true, false_and, and_false, or_true, true_or, false_or, or_false, Nat.reduceAdd, Nat.reduceEqDiff, Nat.reduceDiv, Nat.reduceLT, Nat.reduceLeDiff, Nat.zero_add, reduceCtorEq, Bool.false_eq_true, Option.toList_some, Option.toList_none, List.cons_append, List.nil_append, not_true_eq_false, not_false_eq_true, Nat.sub_zero, dsX6_isKey, jsX6_isKey]
  by_cases c1 : x < 0 <;> by_cases c2 : x < 8 <;> simpa [c1, c2] using hsp
def csX6_isLabel : CS := cs_0
theorem csoX6_isLabel : ∀ op x na cl sp, csX6_isLabel op x = some (na, cl, sp) → CallOK 6 0 0 op x na cl sp := cs_0_ok
def sp_X6_isLabel : SP := fun as M k n Q => match as with
  | [.int x] => Q (some (.int (if ¬ x < 0 ∧ x < 16 then 1 else 0))) M k n
  | _ => False
theorem okX6_isLabel : OkX6_isLabel sp_X6_isLabel := by
  refine inX6_isLabel csoX6_isLabel ?_
  intro as M k n Q hsp
  unfold sp_X6_isLabel at hsp
  split at hsp
  rotate_left
  · exact hsp.elim
  rename_i x
  refine ⟨0, 0, Nat.zero_le _, Nat.zero_le _, Nat.le_of_ble_eq_true rfl, fun G hG => ?_⟩
  refine e_g2 hG [] 60 ?_
  simp only [e_wp_s, Option.getD_some, Option.isSome_some, Option.isSome_none, xis0, xis1, xis2, xis3, xis4, e_ks, lk_k, lk_c, List.lookup_nil, gt_c, vi_i, k1_n, k1_c, k2_n, k2_c, ar_n, ar_c, pk_n, pk_c, rm_0, rm_1, rm_2, rm_3, rm_4, rm_5, rc_9, rcs, fvs, rf_s, rf_n, isI_i, isL_l, isR_r, isR_n, isR_q, ct_i, ct_l, ct_r, ct_n, ct_q, tFs, tCs, tKs, tJs, tSs, e_nf, lgs, ↓reduceIte, true_and, and_true, false_and, and_false, or_true, true_or, false_or, or_false, Nat.reduceAdd, Nat.reduceEqDiff, Nat.reduceDiv, Nat.reduceLT, Nat.reduceLeDiff, Nat.zero_add, reduceCtorEq, Bool.false_eq_true, Option.toList_some, Option.toList_none, List.cons_append, List.nil_append, not_true_eq_false, not_false_eq_true, Nat.sub_zero, dsX6_isLabel, jsX6_isLabel]
  by_cases c1 : x < 0 <;> by_cases c2 : x < 16 <;> simpa [c1, c2] using hsp
def csX6_isTime : CS := cs_0
theorem csoX6_isTime : ∀ op x na cl sp, csX6_isTime op x = some (na, cl, sp) → CallOK 6 0 0 op x na cl sp := cs_0_ok
def sp_X6_isTime : SP := fun as M k n Q => match as with
  | [.int x] => Q (some (.int (if ¬ x < 0 ∧ ¬ 1000000000 < x then 1 else 0))) M k n
  | _ => False
theorem okX6_isTime : OkX6_isTime sp_X6_isTime := by
  refine inX6_isTime csoX6_isTime ?_
  intro as M k n Q hsp
  unfold sp_X6_isTime at hsp
  split at hsp
  rotate_left
  · exact hsp.elim
  rename_i x
  refine ⟨0, 0, Nat.zero_le _, Nat.zero_le _, Nat.le_of_ble_eq_true rfl, fun G hG => ?_⟩
  refine e_g2 hG [] 60 ?_
  simp only [e_wp_s, Option.getD_some, Option.isSome_some, Option.isSome_none, xis0, xis1, xis2, xis3, xis4, e_ks, lk_k, lk_c, List.lookup_nil, gt_c, vi_i, k1_n, k1_c, k2_n, k2_c, ar_n, ar_c, pk_n, pk_c, rm_0, rm_1, rm_2, rm_3, rm_4, rm_5, rc_9, rcs, fvs, rf_s, rf_n, isI_i, isL_l, isR_r, isR_n, isR_q, ct_i, ct_l, ct_r, ct_n, ct_q, tFs, tCs, tKs, tJs, tSs, e_nf, lgs, ↓reduceIte, true_and, and_true, false_and, and_false, or_true, true_or, false_or, or_false, Nat.reduceAdd, Nat.reduceEqDiff, Nat.reduceDiv, Nat.reduceLT, Nat.reduceLeDiff, Nat.zero_add, reduceCtorEq, Bool.false_eq_true, Option.toList_some, Option.toList_none, List.cons_append, List.nil_append, not_true_eq_false, not_false_eq_true, Nat.sub_zero, dsX6_isTime, jsX6_isTime]
  by_cases c1 : x < 0 <;> by_cases c2 : 1000000000 < x <;> simpa [c1, c2] using hsp
def csX6_isWindow : CS := cs_0
theorem csoX6_isWindow : ∀ op x na cl sp, csX6_isWindow op x = some (na, cl, sp) → CallOK 6 0 0 op x na cl sp := cs_0_ok
def sp_X6_isWindow : SP := fun as M k n Q => match as with
  | [.int x, .int y] => Q (some (.int (if ¬ x < 0 ∧ x < y then 1 else 0))) M k n
  | _ => False
theorem okX6_isWindow : OkX6_isWindow sp_X6_isWindow := by
  refine inX6_isWindow csoX6_isWindow ?_
  intro as M k n Q hsp
  unfold sp_X6_isWindow at hsp
  split at hsp
  rotate_left
  · exact hsp.elim
  rename_i x y
  refine ⟨0, 0, Nat.zero_le _, Nat.zero_le _, Nat.le_of_ble_eq_true rfl, fun G hG => ?_⟩
  refine e_g2 hG [] 60 ?_
  simp only [e_wp_s, Option.getD_some, Option.isSome_some, Option.isSome_none, xis0, xis1, xis2, xis3, xis4, e_ks, lk_k, lk_c, List.lookup_nil, gt_c, vi_i, k1_n, k1_c, k2_n, k2_c, ar_n, ar_c, pk_n, pk_c, rm_0, rm_1, rm_2, rm_3, rm_4, rm_5, rc_9, rcs, fvs, rf_s, rf_n, isI_i, isL_l, isR_r, isR_n, isR_q, ct_i, ct_l, ct_r, ct_n, ct_q, tFs, tCs, tKs, tJs, tSs, e_nf, lgs, ↓reduceIte, true_and, and_true, false_and, and_false, or_true, true_or, false_or, or_false, Nat.reduceAdd, Nat.reduceEqDiff, Nat.reduceDiv, Nat.reduceLT, Nat.reduceLeDiff, Nat.zero_add, reduceCtorEq, Bool.false_eq_true, Option.toList_some, Option.toList_none, List.cons_append, List.nil_append, not_true_eq_false, not_false_eq_true, Nat.sub_zero, dsX6_isWindow, jsX6_isWindow]
  by_cases c1 : x < 0 <;> by_cases c2 : x < y <;> simpa [c1, c2] using hsp
def csX6_isValue : CS := cs_0
theorem csoX6_isValue : ∀ op x na cl sp, csX6_isValue op x = some (na, cl, sp) → CallOK 6 0 0 op x na cl sp := cs_0_ok
def sp_X6_isValue : SP := fun as M k n Q => match as with
  | [.long x] => Q (some (.int (if ¬ x < -1000000000000 ∧ ¬ 1000000000000 < x then 1 else 0))) M k n
  | _ => False
theorem okX6_isValue : OkX6_isValue sp_X6_isValue := by
  refine inX6_isValue csoX6_isValue ?_
  intro as M k n Q hsp
  unfold sp_X6_isValue at hsp
  split at hsp
  rotate_left
  · exact hsp.elim
  rename_i x
  refine ⟨0, 0, Nat.zero_le _, Nat.zero_le _, Nat.le_of_ble_eq_true rfl, fun G hG => ?_⟩
  refine e_g2 hG [] 60 ?_
  simp only [e_wp_s, Option.getD_some, Option.isSome_some, Option.isSome_none, xis0, xis1, xis2, xis3, xis4, e_ks, lk_k, lk_c, List.lookup_nil, gt_c, vi_i, k1_n, k1_c, k2_n, k2_c, ar_n, ar_c, pk_n, pk_c, rm_0, rm_1, rm_2, rm_3, rm_4, rm_5, rc_9, rcs, fvs, rf_s, rf_n, isI_i, isL_l, isR_r, isR_n, isR_q, ct_i, ct_l, ct_r, ct_n, ct_q, tFs, tCs, tKs, tJs, tSs, e_nf, lgs, ↓reduceIte, true_and, and_true, false_and, and_false, or_true, true_or, false_or, or_false, Nat.reduceAdd, Nat.reduceEqDiff, Nat.reduceDiv, Nat.reduceLT, Nat.reduceLeDiff, Nat.zero_add, reduceCtorEq, Bool.false_eq_true, Option.toList_some, Option.toList_none, List.cons_append, List.nil_append, not_true_eq_false, not_false_eq_true, Nat.sub_zero, dsX6_isValue, jsX6_isValue]
  by_cases c1 : x < -1000000000000 <;> by_cases c2 : 1000000000000 < x <;> simpa [c1, c2] using hsp
def isV (kind : Int32) (x : Int64) : Prop := if kind = 1 then x = 0 ∨ x = 1 else (¬ x < -1000000000000 ∧ ¬ 1000000000000 < x) ∧ (¬ kind = 3 ∨ ¬ x < 0)
def isVd (kind : Int32) (x : Int64) : Int32 := if kind = 1 then (if x = 0 ∨ x = 1 then 1 else 0) else (if (¬ x < -1000000000000 ∧ ¬ 1000000000000 < x) ∧ (¬ kind = 3 ∨ ¬ x < 0) then 1 else 0)
def sp_X6_isValueOf : SP := fun as M k n Q => match as with
  | [.int kd, .long x] => Q (some (.int (isVd kd x))) M k n
  | _ => False
def csX6_isValueOf : CS := (cs_c 2 66 1 9 sp_X6_isValue cs_0)
theorem csoX6_isValueOf : ∀ op x na cl sp, csX6_isValueOf op x = some (na, cl, sp) → CallOK 6 1 21 op x na cl sp := (cs_c_ok (caX6_isValueOf_66 okX6_isValue) cs_0_ok)
theorem xcX6_isValueOf : (∀ (Q : QT) (G : GT) (pc : Nat) (L : LV) (a0 : Value) (r : List Value) (M : HM) (k n : Nat), ex_i 6 3 4 false csX6_isValueOf Q G (.invokestatic 66) pc L (a0 :: r) M k n = (e_rm r ∧ e_rc M 9 [a0] ∧ sp_X6_isValue [a0] M k n (fun v M' k' n' => G (pc + 3) L (v.toList ++ r) M' k' n'))) := (fun _ _ _ _ _ _ _ _ _ => xv2_1 rfl)
theorem okX6_isValueOf : OkX6_isValueOf sp_X6_isValueOf := by
  refine inX6_isValueOf csoX6_isValueOf ?_
  intro as M k n Q hsp
  unfold sp_X6_isValueOf at hsp
  split at hsp
  rotate_left
  · exact hsp.elim
  rename_i kd x
  refine ⟨0, 0, Nat.zero_le _, Nat.zero_le _, Nat.le_of_ble_eq_true rfl, fun G hG => ?_⟩
  refine e_g2 hG [] 60 ?_
  simp only [e_wp_s, Option.getD_some, Option.isSome_some, Option.isSome_none, xis0, xis1, xis2, xis3, xis4, e_ks, lk_k, lk_c, List.lookup_nil, gt_c, vi_i, k1_n, k1_c, k2_n, k2_c, ar_n, ar_c, pk_n, pk_c, rm_0, rm_1, rm_2, rm_3, rm_4, rm_5, rc_9, rcs, fvs, rf_s, rf_n, isI_i, isL_l, isR_r, isR_n, isR_q, ct_i, ct_l, ct_r, ct_n, ct_q, tFs, tCs, tKs, tJs, tSs, e_nf, lgs, ↓reduceIte, true_and, and_true, false_and, and_false, or_true, true_or, false_or, or_false, Nat.reduceAdd, Nat.reduceEqDiff, Nat.reduceDiv, Nat.reduceLT, Nat.reduceLeDiff, Nat.zero_add, reduceCtorEq, Bool.false_eq_true, Option.toList_some, Option.toList_none, List.cons_append, List.nil_append, not_true_eq_false, not_false_eq_true, Nat.sub_zero, dsX6_isValueOf, jsX6_isValueOf, xcX6_isValueOf, ↓sp_X6_isValue]
  unfold isVd at hsp
  by_cases c0 : kd = 1
  · by_cases c1 : x = 0 <;> by_cases c2 : x = 1 <;> simp only [c0, c1, c2, if_true, if_false, or_self, or_true, true_or] at hsp ⊢ <;> first | exact hsp | simpa using hsp
  · by_cases c1 : x < -1000000000000 <;> by_cases c2 : 1000000000000 < x <;> by_cases c3 : kd = 3 <;> by_cases c4 : x < 0 <;> simp [c0, c1, c2, c3, c4] at hsp ⊢ <;> exact hsp
