def csX0_isTorn : CS := cs_0
theorem csoX0_isTorn : ∀ op x na cl sp, csX0_isTorn op x = some (na, cl, sp) → CallOK 0 0 0 op x na cl sp := cs_0_ok
def sp_X0_isTorn : SP := fun as M k n Q => match as with
  | [.ref b] => mK M b = 1 ∧ Q (some (.int (if 0 < mI M 2 b then 1 else 0))) M k n
  | _ => False
theorem okX0_isTorn : OkX0_isTorn sp_X0_isTorn := by
  refine inX0_isTorn csoX0_isTorn ?_
  intro as M k n Q hsp
  unfold sp_X0_isTorn at hsp
  split at hsp
  rotate_left
  · exact hsp.elim
  rename_i b
  obtain ⟨hb, hq⟩ := hsp
  refine ⟨0, 0, Nat.zero_le _, Nat.zero_le _, Nat.le_of_ble_eq_true rfl, fun G hG => ?_⟩
  refine e_g2 hG [] 30 ?_
  simp only [e_wp_s, Option.getD_some, Option.isSome_some, Option.isSome_none, xis0, xis1, xis2, xis3, xis4, e_ks, lk_k, lk_c, List.lookup_nil, gt_c, vi_i, k1_n, k1_c, k2_n, k2_c, ar_n, ar_c, pk_n, pk_c, rm_0, rm_1, rm_2, rm_3, rm_4, rm_5, rc_9, rcs, fvs, rf_s, rf_n, isI_i, isL_l, isR_r, isR_n, isR_q, ct_i, ct_l, ct_r, ct_n, ct_q, tFs, tCs, tKs, tJs, tSs, e_nf, lgs, ↓reduceIte, true_and, and_true, false_and, and_false, or_true, true_or, false_or, or_false, Nat.reduceAdd, Nat.reduceEqDiff, Nat.reduceDiv, Nat.reduceLT, Nat.reduceLeDiff, Nat.zero_add, reduceCtorEq, Bool.false_eq_true, Option.toList_some, Option.toList_none, List.cons_append, List.nil_append, not_true_eq_false, not_false_eq_true, Nat.sub_zero, dsX0_isTorn, jsX0_isTorn, hb]
  by_cases h : 0 < mI M 2 b <;> simpa [h] using hq
def csX0_byteCount : CS := cs_0
theorem csoX0_byteCount : ∀ op x na cl sp, csX0_byteCount op x = some (na, cl, sp) → CallOK 0 0 0 op x na cl sp := cs_0_ok
def sp_X0_byteCount : SP := fun as M k n Q => match as with
  | [.ref b] => mK M b = 1 ∧ Q (some (.int ((mI M 3 b + 7) / 8))) M k n
  | _ => False
theorem okX0_byteCount : OkX0_byteCount sp_X0_byteCount := by
  refine inX0_byteCount csoX0_byteCount ?_
  intro as M k n Q hsp
  unfold sp_X0_byteCount at hsp
  split at hsp
  rotate_left
  · exact hsp.elim
  rename_i b
  obtain ⟨hb, hq⟩ := hsp
  refine ⟨0, 0, Nat.zero_le _, Nat.zero_le _, Nat.le_of_ble_eq_true rfl, fun G hG => ?_⟩
  refine e_g2 hG [] 30 ?_
  simp only [e_wp_s, Option.getD_some, Option.isSome_some, Option.isSome_none, xis0, xis1, xis2, xis3, xis4, e_ks, lk_k, lk_c, List.lookup_nil, gt_c, vi_i, k1_n, k1_c, k2_n, k2_c, ar_n, ar_c, pk_n, pk_c, rm_0, rm_1, rm_2, rm_3, rm_4, rm_5, rc_9, rcs, fvs, rf_s, rf_n, isI_i, isL_l, isR_r, isR_n, isR_q, ct_i, ct_l, ct_r, ct_n, ct_q, tFs, tCs, tKs, tJs, tSs, e_nf, lgs, ↓reduceIte, true_and, and_true, false_and, and_false, or_true, true_or, false_or, or_false, Nat.reduceAdd, Nat.reduceEqDiff, Nat.reduceDiv, Nat.reduceLT, Nat.reduceLeDiff, Nat.zero_add, reduceCtorEq, Bool.false_eq_true, Option.toList_some, Option.toList_none, List.cons_append, List.nil_append, not_true_eq_false, not_false_eq_true, Nat.sub_zero, dsX0_byteCount, hb]
  exact ⟨by decide, hq⟩
def sp_X0_hasByte : SP := fun as M k n Q => match as with
  | [.ref b, .int i] => mK M b = 1 ∧ Q (some (.int (if ¬ i < 0 ∧ i < (mI M 3 b + 7) / 8 then 1 else 0))) M k n
  | _ => False
def csX0_hasByte : CS := (cs_c 0 62 1 0 sp_X0_byteCount cs_0)
theorem csoX0_hasByte : ∀ op x na cl sp, csX0_hasByte op x = some (na, cl, sp) → CallOK 0 1 20 op x na cl sp := (cs_c_ok (caX0_hasByte_62 okX0_byteCount) cs_0_ok)
theorem xcX0_hasByte : (∀ (Q : QT) (G : GT) (pc : Nat) (L : LV) (a0 : Value) (r : List Value) (M : HM) (k n : Nat), ex_i 0 2 4 false csX0_hasByte Q G (.invokevirtual 62) pc L (a0 :: r) M k n = (e_rm r ∧ e_rc M 0 [a0] ∧ sp_X0_byteCount [a0] M k n (fun v M' k' n' => G (pc + 3) L (v.toList ++ r) M' k' n'))) := (fun _ _ _ _ _ _ _ _ _ => xv0_1 rfl)
theorem okX0_hasByte : OkX0_hasByte sp_X0_hasByte := by
  refine inX0_hasByte csoX0_hasByte ?_
  intro as M k n Q hsp
  unfold sp_X0_hasByte at hsp
  split at hsp
  rotate_left
  · exact hsp.elim
  rename_i b i
  obtain ⟨hb, hq⟩ := hsp
  refine ⟨0, 0, Nat.zero_le _, Nat.zero_le _, Nat.le_of_ble_eq_true rfl, fun G hG => ?_⟩
  refine e_g2 hG [] 30 ?_
  simp only [e_wp_s, Option.getD_some, Option.isSome_some, Option.isSome_none, xis0, xis1, xis2, xis3, xis4, e_ks, lk_k, lk_c, List.lookup_nil, gt_c, vi_i, k1_n, k1_c, k2_n, k2_c, ar_n, ar_c, pk_n, pk_c, rm_0, rm_1, rm_2, rm_3, rm_4, rm_5, rc_9, rcs, fvs, rf_s, rf_n, isI_i, isL_l, isR_r, isR_n, isR_q, ct_i, ct_l, ct_r, ct_n, ct_q, tFs, tCs, tKs, tJs, tSs, e_nf, lgs, ↓reduceIte, true_and, and_true, false_and, and_false, or_true, true_or, false_or, or_false, Nat.reduceAdd, Nat.reduceEqDiff, Nat.reduceDiv, Nat.reduceLT, Nat.reduceLeDiff, Nat.zero_add, reduceCtorEq, Bool.false_eq_true, Option.toList_some, Option.toList_none, List.cons_append, List.nil_append, not_true_eq_false, not_false_eq_true, Nat.sub_zero, dsX0_hasByte, jsX0_hasByte, xcX0_hasByte, hb, ↓sp_X0_byteCount]
  by_cases h : i < 0 <;> by_cases h2 : i < (mI M 3 b + 7) / 8 <;> simpa [h, h2] using hq
def csX0_hasPoint : CS := cs_0
theorem csoX0_hasPoint : ∀ op x na cl sp, csX0_hasPoint op x = some (na, cl, sp) → CallOK 0 0 0 op x na cl sp := cs_0_ok
def sp_X0_hasPoint : SP := fun as M k n Q => match as with
  | [.ref b, .int i] => mK M b = 1 ∧ Q (some (.int (if ¬ i < 0 ∧ i < mI M 4 b then 1 else 0))) M k n
  | _ => False
theorem okX0_hasPoint : OkX0_hasPoint sp_X0_hasPoint := by
  refine inX0_hasPoint csoX0_hasPoint ?_
  intro as M k n Q hsp
  unfold sp_X0_hasPoint at hsp
  split at hsp
  rotate_left
  · exact hsp.elim
  rename_i b i
  obtain ⟨hb, hq⟩ := hsp
  refine ⟨0, 0, Nat.zero_le _, Nat.zero_le _, Nat.le_of_ble_eq_true rfl, fun G hG => ?_⟩
  refine e_g2 hG [] 30 ?_
  simp only [e_wp_s, Option.getD_some, Option.isSome_some, Option.isSome_none, xis0, xis1, xis2, xis3, xis4, e_ks, lk_k, lk_c, List.lookup_nil, gt_c, vi_i, k1_n, k1_c, k2_n, k2_c, ar_n, ar_c, pk_n, pk_c, rm_0, rm_1, rm_2, rm_3, rm_4, rm_5, rc_9, rcs, fvs, rf_s, rf_n, isI_i, isL_l, isR_r, isR_n, isR_q, ct_i, ct_l, ct_r, ct_n, ct_q, tFs, tCs, tKs, tJs, tSs, e_nf, lgs, ↓reduceIte, true_and, and_true, false_and, and_false, or_true, true_or, false_or, or_false, Nat.reduceAdd, Nat.reduceEqDiff, Nat.reduceDiv, Nat.reduceLT, Nat.reduceLeDiff, Nat.zero_add, reduceCtorEq, Bool.false_eq_true, Option.toList_some, Option.toList_none, List.cons_append, List.nil_append, not_true_eq_false, not_false_eq_true, Nat.sub_zero, dsX0_hasPoint, jsX0_hasPoint, hb]
  by_cases h : i < 0 <;> by_cases h2 : i < mI M 4 b <;> simpa [h, h2] using hq
def sp_X0_takesMore : SP := fun as M k n Q => match as with
  | [.ref b] => mK M b = 1 ∧ Q (some (.int (if mI M 4 b < 16 ∧ ¬ 0 < mI M 2 b then 1 else 0))) M k n
  | _ => False
def csX0_takesMore : CS := (cs_c 0 66 1 0 sp_X0_isTorn cs_0)
theorem csoX0_takesMore : ∀ op x na cl sp, csX0_takesMore op x = some (na, cl, sp) → CallOK 0 1 20 op x na cl sp := (cs_c_ok (caX0_takesMore_66 okX0_isTorn) cs_0_ok)
theorem xcX0_takesMore : (∀ (Q : QT) (G : GT) (pc : Nat) (L : LV) (a0 : Value) (r : List Value) (M : HM) (k n : Nat), ex_i 0 1 4 false csX0_takesMore Q G (.invokevirtual 66) pc L (a0 :: r) M k n = (e_rm r ∧ e_rc M 0 [a0] ∧ sp_X0_isTorn [a0] M k n (fun v M' k' n' => G (pc + 3) L (v.toList ++ r) M' k' n'))) := (fun _ _ _ _ _ _ _ _ _ => xv0_1 rfl)
theorem okX0_takesMore : OkX0_takesMore sp_X0_takesMore := by
  refine inX0_takesMore csoX0_takesMore ?_
  intro as M k n Q hsp
  unfold sp_X0_takesMore at hsp
  split at hsp
  rotate_left
  · exact hsp.elim
  rename_i b
  obtain ⟨hb, hq⟩ := hsp
  refine ⟨0, 0, Nat.zero_le _, Nat.zero_le _, Nat.le_of_ble_eq_true rfl, fun G hG => ?_⟩
  refine e_g2 hG [] 30 ?_
  simp only [e_wp_s, Option.getD_some, Option.isSome_some, Option.isSome_none, xis0, xis1, xis2, xis3, xis4, e_ks, lk_k, lk_c, List.lookup_nil, gt_c, vi_i, k1_n, k1_c, k2_n, k2_c, ar_n, ar_c, pk_n, pk_c, rm_0, rm_1, rm_2, rm_3, rm_4, rm_5, rc_9, rcs, fvs, rf_s, rf_n, isI_i, isL_l, isR_r, isR_n, isR_q, ct_i, ct_l, ct_r, ct_n, ct_q, tFs, tCs, tKs, tJs, tSs, e_nf, lgs, ↓reduceIte, true_and, and_true, false_and, and_false, or_true, true_or, false_or, or_false, Nat.reduceAdd, Nat.reduceEqDiff, Nat.reduceDiv, Nat.reduceLT, Nat.reduceLeDiff, Nat.zero_add, reduceCtorEq, Bool.false_eq_true, Option.toList_some, Option.toList_none, List.cons_append, List.nil_append, not_true_eq_false, not_false_eq_true, Nat.sub_zero, dsX0_takesMore, jsX0_takesMore, xcX0_takesMore, hb, ↓sp_X0_isTorn]
  by_cases h : mI M 4 b < 16 <;> by_cases h2 : 0 < mI M 2 b <;> simpa [h, h2] using hq
def csX0_touches : CS := cs_0
theorem csoX0_touches : ∀ op x na cl sp, csX0_touches op x = some (na, cl, sp) → CallOK 0 0 0 op x na cl sp := cs_0_ok
def sp_X0_touches : SP := fun as M k n Q => match as with
  | [.ref b, .int x, .int y] => mK M b = 1 ∧ Q (some (.int (if 0 < mI M 4 b ∧ mI M 5 b < y ∧ ¬ mI M 6 b < x then 1 else 0))) M k n
  | _ => False
theorem okX0_touches : OkX0_touches sp_X0_touches := by
  refine inX0_touches csoX0_touches ?_
  intro as M k n Q hsp
  unfold sp_X0_touches at hsp
  split at hsp
  rotate_left
  · exact hsp.elim
  rename_i b x y
  obtain ⟨hb, hq⟩ := hsp
  refine ⟨0, 0, Nat.zero_le _, Nat.zero_le _, Nat.le_of_ble_eq_true rfl, fun G hG => ?_⟩
  refine e_g2 hG [] 30 ?_
  simp only [e_wp_s, Option.getD_some, Option.isSome_some, Option.isSome_none, xis0, xis1, xis2, xis3, xis4, e_ks, lk_k, lk_c, List.lookup_nil, gt_c, vi_i, k1_n, k1_c, k2_n, k2_c, ar_n, ar_c, pk_n, pk_c, rm_0, rm_1, rm_2, rm_3, rm_4, rm_5, rc_9, rcs, fvs, rf_s, rf_n, isI_i, isL_l, isR_r, isR_n, isR_q, ct_i, ct_l, ct_r, ct_n, ct_q, tFs, tCs, tKs, tJs, tSs, e_nf, lgs, ↓reduceIte, true_and, and_true, false_and, and_false, or_true, true_or, false_or, or_false, Nat.reduceAdd, Nat.reduceEqDiff, Nat.reduceDiv, Nat.reduceLT, Nat.reduceLeDiff, Nat.zero_add, reduceCtorEq, Bool.false_eq_true, Option.toList_some, Option.toList_none, List.cons_append, List.nil_append, not_true_eq_false, not_false_eq_true, Nat.sub_zero, dsX0_touches, jsX0_touches, hb]
  by_cases h : 0 < mI M 4 b <;> by_cases h2 : mI M 5 b < y <;> by_cases h3 : mI M 6 b < x <;> simpa [h, h2, h3] using hq
def csX0_isWithin : CS := cs_0
theorem csoX0_isWithin : ∀ op x na cl sp, csX0_isWithin op x = some (na, cl, sp) → CallOK 0 0 0 op x na cl sp := cs_0_ok
def sp_X0_isWithin : SP := fun as M k n Q => match as with
  | [.ref b, .int x, .int y] => mK M b = 1 ∧ Q (some (.int (if ¬ mI M 5 b < x ∧ mI M 6 b < y then 1 else 0))) M k n
  | _ => False
theorem okX0_isWithin : OkX0_isWithin sp_X0_isWithin := by
  refine inX0_isWithin csoX0_isWithin ?_
  intro as M k n Q hsp
  unfold sp_X0_isWithin at hsp
  split at hsp
  rotate_left
  · exact hsp.elim
  rename_i b x y
  obtain ⟨hb, hq⟩ := hsp
  refine ⟨0, 0, Nat.zero_le _, Nat.zero_le _, Nat.le_of_ble_eq_true rfl, fun G hG => ?_⟩
  refine e_g2 hG [] 30 ?_
  simp only [e_wp_s, Option.getD_some, Option.isSome_some, Option.isSome_none, xis0, xis1, xis2, xis3, xis4, e_ks, lk_k, lk_c, List.lookup_nil, gt_c, vi_i, k1_n, k1_c, k2_n, k2_c, ar_n, ar_c, pk_n, pk_c, rm_0, rm_1, rm_2, rm_3, rm_4, rm_5, rc_9, rcs, fvs, rf_s, rf_n, isI_i, isL_l, isR_r, isR_n, isR_q, ct_i, ct_l, ct_r, ct_n, ct_q, tFs, tCs, tKs, tJs, tSs, e_nf, lgs, ↓reduceIte, true_and, and_true, false_and, and_false, or_true, true_or, false_or, or_false, Nat.reduceAdd, Nat.reduceEqDiff, Nat.reduceDiv, Nat.reduceLT, Nat.reduceLeDiff, Nat.zero_add, reduceCtorEq, Bool.false_eq_true, Option.toList_some, Option.toList_none, List.cons_append, List.nil_append, not_true_eq_false, not_false_eq_true, Nat.sub_zero, dsX0_isWithin, jsX0_isWithin, hb]
  by_cases h2 : mI M 5 b < x <;> by_cases h3 : mI M 6 b < y <;> simpa [h2, h3] using hq
def csX0_byteNow : CS := cs_0
theorem csoX0_byteNow : ∀ op x na cl sp, csX0_byteNow op x = some (na, cl, sp) → CallOK 0 0 0 op x na cl sp := cs_0_ok
def sp_X0_byteNow : SP := fun as M k n Q => match as with
  | [.ref b, .int i] => WB M b ∧ Q (some (.int (if i < 0 ∨ ¬ i < 226 then 0 else aI M (bt M b) i.toNatClampNeg))) M k n
  | _ => False
theorem okX0_byteNow : OkX0_byteNow sp_X0_byteNow := by
  refine inX0_byteNow csoX0_byteNow ?_
  intro as M k n Q hsp
  unfold sp_X0_byteNow at hsp
  split at hsp
  rotate_left
  · exact hsp.elim
  rename_i b i
  obtain ⟨⟨hb, hy, hky, hny, -⟩, hq⟩ := hsp
  refine ⟨0, 0, Nat.zero_le _, Nat.zero_le _, Nat.le_of_ble_eq_true rfl, fun G hG => ?_⟩
  refine e_g2 hG [] 30 ?_
  simp only [e_wp_s, Option.getD_some, Option.isSome_some, Option.isSome_none, xis0, xis1, xis2, xis3, xis4, e_ks, lk_k, lk_c, List.lookup_nil, gt_c, vi_i, k1_n, k1_c, k2_n, k2_c, ar_n, ar_c, pk_n, pk_c, rm_0, rm_1, rm_2, rm_3, rm_4, rm_5, rc_9, rcs, fvs, rf_s, rf_n, isI_i, isL_l, isR_r, isR_n, isR_q, ct_i, ct_l, ct_r, ct_n, ct_q, tFs, tCs, tKs, tJs, tSs, e_nf, lgs, ↓reduceIte, true_and, and_true, false_and, and_false, or_true, true_or, false_or, or_false, Nat.reduceAdd, Nat.reduceEqDiff, Nat.reduceDiv, Nat.reduceLT, Nat.reduceLeDiff, Nat.zero_add, reduceCtorEq, Bool.false_eq_true, Option.toList_some, Option.toList_none, List.cons_append, List.nil_append, not_true_eq_false, not_false_eq_true, Nat.sub_zero, dsX0_byteNow, jsX0_byteNow, hb, hy, hky, hny, of_226]
  by_cases h : i < 0
  · simpa [h] using hq
  · by_cases h2 : i < 226
    · simp only [h, h2, if_true, if_false, not_true_eq_false, or_self] at hq ⊢
      exact ⟨i_ge h h2 (by decide), hq⟩
    · simpa [h, h2] using hq
def csX0_flipOf : CS := cs_0
theorem csoX0_flipOf : ∀ op x na cl sp, csX0_flipOf op x = some (na, cl, sp) → CallOK 0 0 0 op x na cl sp := cs_0_ok
def fo (M : HM) (b : Nat) (i : Int32) : Int32 := match mR M 1 b with
  | none => 0
  | some z => if i < 0 ∨ ¬ i < 226 then 0 else aI M z i.toNatClampNeg
def sp_X0_flipOf : SP := fun as M k n Q => match as with
  | [.ref b, .int i] => WB M b ∧ Q (some (.int (fo M b i))) M k n
  | _ => False
theorem okX0_flipOf : OkX0_flipOf sp_X0_flipOf := by
  refine inX0_flipOf csoX0_flipOf ?_
  intro as M k n Q hsp
  unfold sp_X0_flipOf at hsp
  split at hsp
  rotate_left
  · exact hsp.elim
  rename_i b i
  obtain ⟨⟨hb, hy, hky, hny, hz⟩, hq⟩ := hsp
  refine ⟨0, 0, Nat.zero_le _, Nat.zero_le _, Nat.le_of_ble_eq_true rfl, fun G hG => ?_⟩
  refine e_g2 hG [] 30 ?_
  unfold fo at hq
  cases hf : mR M 1 b with
  | none =>
    rw [hf] at hq
    simp only [e_wp_s, Option.getD_some, Option.isSome_some, Option.isSome_none, xis0, xis1, xis2, xis3, xis4, e_ks, lk_k, lk_c, List.lookup_nil, gt_c, vi_i, k1_n, k1_c, k2_n, k2_c, ar_n, ar_c, pk_n, pk_c, rm_0, rm_1, rm_2, rm_3, rm_4, rm_5, rc_9, rcs, fvs, rf_s, rf_n, isI_i, isL_l, isR_r, isR_n, isR_q, ct_i, ct_l, ct_r, ct_n, ct_q, tFs, tCs, tKs, tJs, tSs, e_nf, lgs, ↓reduceIte, true_and, and_true, false_and, and_false, or_true, true_or, false_or, or_false, Nat.reduceAdd, Nat.reduceEqDiff, Nat.reduceDiv, Nat.reduceLT, Nat.reduceLeDiff, Nat.zero_add, reduceCtorEq, Bool.false_eq_true, Option.toList_some, Option.toList_none, List.cons_append, List.nil_append, not_true_eq_false, not_false_eq_true, Nat.sub_zero, dsX0_flipOf, jsX0_flipOf, hb, hf]
    exact hq
  | some z =>
    obtain ⟨h1, h2, h3⟩ := hz z hf
    rw [hf] at hq
    simp only [e_wp_s, Option.getD_some, Option.isSome_some, Option.isSome_none, xis0, xis1, xis2, xis3, xis4, e_ks, lk_k, lk_c, List.lookup_nil, gt_c, vi_i, k1_n, k1_c, k2_n, k2_c, ar_n, ar_c, pk_n, pk_c, rm_0, rm_1, rm_2, rm_3, rm_4, rm_5, rc_9, rcs, fvs, rf_s, rf_n, isI_i, isL_l, isR_r, isR_n, isR_q, ct_i, ct_l, ct_r, ct_n, ct_q, tFs, tCs, tKs, tJs, tSs, e_nf, lgs, ↓reduceIte, true_and, and_true, false_and, and_false, or_true, true_or, false_or, or_false, Nat.reduceAdd, Nat.reduceEqDiff, Nat.reduceDiv, Nat.reduceLT, Nat.reduceLeDiff, Nat.zero_add, reduceCtorEq, Bool.false_eq_true, Option.toList_some, Option.toList_none, List.cons_append, List.nil_append, not_true_eq_false, not_false_eq_true, Nat.sub_zero, dsX0_flipOf, jsX0_flipOf, hb, hf, h1, h2, of_226]
    by_cases h : i < 0
    · simpa [h] using hq
    · by_cases h2 : i < 226
      · simp only [h, h2, if_true, if_false, not_true_eq_false, or_self] at hq ⊢
        exact ⟨i_ge h h2 (by decide), hq⟩
      · simpa [h, h2] using hq
def sp_X0_byteMade : SP := fun as M k n Q => match as with
  | [.ref b, .int i] => WB M b ∧ Q (some (.int ((if i < 0 ∨ ¬ i < 226 then 0 else aI M (bt M b) i.toNatClampNeg) ^^^ fo M b i))) M k n
  | _ => False
def csX0_byteMade : CS := (cs_c 0 70 2 0 sp_X0_byteNow (cs_c 0 74 2 0 sp_X0_flipOf cs_0))
theorem csoX0_byteMade : ∀ op x na cl sp, csX0_byteMade op x = some (na, cl, sp) → CallOK 0 1 21 op x na cl sp := (cs_c_ok (caX0_byteMade_70 okX0_byteNow) (cs_c_ok (caX0_byteMade_74 okX0_flipOf) cs_0_ok))
theorem xcX0_byteMade : (∀ (Q : QT) (G : GT) (pc : Nat) (L : LV) (a0 a1 : Value) (r : List Value) (M : HM) (k n : Nat), ex_i 0 2 1 false csX0_byteMade Q G (.invokevirtual 70) pc L (a1 :: a0 :: r) M k n = (e_rm r ∧ e_rc M 0 [a0, a1] ∧ sp_X0_byteNow [a0, a1] M k n (fun v M' k' n' => G (pc + 3) L (v.toList ++ r) M' k' n'))) ∧ (∀ (Q : QT) (G : GT) (pc : Nat) (L : LV) (a0 a1 : Value) (r : List Value) (M : HM) (k n : Nat), ex_i 0 2 1 false csX0_byteMade Q G (.invokevirtual 74) pc L (a1 :: a0 :: r) M k n = (e_rm r ∧ e_rc M 0 [a0, a1] ∧ sp_X0_flipOf [a0, a1] M k n (fun v M' k' n' => G (pc + 3) L (v.toList ++ r) M' k' n'))) := ⟨(fun _ _ _ _ _ _ _ _ _ _ => xv0_2 rfl), (fun _ _ _ _ _ _ _ _ _ _ => xv0_2 rfl)⟩
theorem okX0_byteMade : OkX0_byteMade sp_X0_byteMade := by
  refine inX0_byteMade csoX0_byteMade ?_
  intro as M k n Q hsp
  unfold sp_X0_byteMade at hsp
  split at hsp
  rotate_left
  · exact hsp.elim
  rename_i b i
  obtain ⟨hw, hq⟩ := hsp
  have hb := hw.1
  refine ⟨0, 0, Nat.zero_le _, Nat.zero_le _, Nat.le_of_ble_eq_true rfl, fun G hG => ?_⟩
  refine e_g2 hG [] 30 ?_
  simp only [e_wp_s, Option.getD_some, Option.isSome_some, Option.isSome_none, xis0, xis1, xis2, xis3, xis4, e_ks, lk_k, lk_c, List.lookup_nil, gt_c, vi_i, k1_n, k1_c, k2_n, k2_c, ar_n, ar_c, pk_n, pk_c, rm_0, rm_1, rm_2, rm_3, rm_4, rm_5, rc_9, rcs, fvs, rf_s, rf_n, isI_i, isL_l, isR_r, isR_n, isR_q, ct_i, ct_l, ct_r, ct_n, ct_q, tFs, tCs, tKs, tJs, tSs, e_nf, lgs, ↓reduceIte, true_and, and_true, false_and, and_false, or_true, true_or, false_or, or_false, Nat.reduceAdd, Nat.reduceEqDiff, Nat.reduceDiv, Nat.reduceLT, Nat.reduceLeDiff, Nat.zero_add, reduceCtorEq, Bool.false_eq_true, Option.toList_some, Option.toList_none, List.cons_append, List.nil_append, not_true_eq_false, not_false_eq_true, Nat.sub_zero, dsX0_byteMade, xcX0_byteMade, hb, hw, ↓sp_X0_byteNow, ↓sp_X0_flipOf]
  exact hq
