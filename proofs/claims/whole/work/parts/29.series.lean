/-! Series: its arrays; the reads -/
def lb (M : HM) (s : Nat) : Nat := (mR M 129 s).getD 0
def sps (M : HM) (s : Nat) : Nat := (mR M 130 s).getD 0
def bks (M : HM) (s : Nat) : Nat := (mR M 132 s).getD 0
def ltt (M : HM) (s : Nat) : Nat := (mR M 134 s).getD 0
def ltv (M : HM) (s : Nat) : Nat := (mR M 135 s).getD 0
def SR (M : HM) (s : Nat) : Prop := mK M s = 5 ∧ (mR M 129 s = some (lb M s) ∧ mK M (lb M s) = 9 ∧ mN M (lb M s) = 8) ∧ (mR M 130 s = some (sps M s) ∧ mK M (sps M s) = 13 ∧ mN M (sps M s) = 60) ∧
  (mR M 132 s = some (bks M s) ∧ mK M (bks M s) = 11 ∧ mN M (bks M s) = 300) ∧ (mR M 134 s = some (ltt M s) ∧ mK M (ltt M s) = 9 ∧ mN M (ltt M s) = 40) ∧ (mR M 135 s = some (ltv M s) ∧ mK M (ltv M s) = 10 ∧ mN M (ltv M s) = 40)
theorem ofs : Int32.ofNat 8 = 8 ∧ Int32.ofNat 60 = 60 ∧ Int32.ofNat 300 = 300 ∧ Int32.ofNat 40 = 40 ∧ Int32.ofNat 340 = 340 := ⟨rfl, rfl, rfl, rfl, rfl⟩
def labF (M : HM) (s : Nat) (i : Int32) : Int32 := if ¬ i < 0 ∧ i < 8 then aI M (lb M s) i.toNatClampNeg else -1
def sp_X4_labelOf : SP := fun as M k n Q => match as with
  | [.ref s, .int i] => SR M s ∧ Q (some (.int (labF M s i))) M k n
  | _ => False
def csX4_labelOf : CS := (cs_c 2 53 1 9 sp_X6_isKey cs_0)
theorem csoX4_labelOf : ∀ op x na cl sp, csX4_labelOf op x = some (na, cl, sp) → CallOK 4 1 20 op x na cl sp := (cs_c_ok (caX4_labelOf_53 okX6_isKey) cs_0_ok)
theorem xcX4_labelOf : (∀ (Q : QT) (G : GT) (pc : Nat) (L : LV) (a0 : Value) (r : List Value) (M : HM) (k n : Nat), ex_i 4 2 1 false csX4_labelOf Q G (.invokestatic 53) pc L (a0 :: r) M k n = (e_rm r ∧ e_rc M 9 [a0] ∧ sp_X6_isKey [a0] M k n (fun v M' k' n' => G (pc + 3) L (v.toList ++ r) M' k' n'))) := (fun _ _ _ _ _ _ _ _ _ => xv2_1 rfl)
theorem okX4_labelOf : OkX4_labelOf sp_X4_labelOf := by
  refine inX4_labelOf csoX4_labelOf ?_
  intro as M k n Q hsp
  unfold sp_X4_labelOf at hsp
  split at hsp
  rotate_left
  · exact hsp.elim
  rename_i s i
  obtain ⟨⟨h0, ⟨h1, h2, h3⟩, -⟩, hq⟩ := hsp
  refine ⟨0, 0, Nat.zero_le _, Nat.zero_le _, Nat.le_of_ble_eq_true rfl, fun G hG => ?_⟩
  refine e_g2 hG [] 40 ?_
  simp only [e_wp_s, Option.getD_some, Option.isSome_some, Option.isSome_none, xis0, xis1, xis2, xis3, xis4, e_ks, lk_k, lk_c, List.lookup_nil, gt_c, vi_i, k1_n, k1_c, k2_n, k2_c, ar_n, ar_c, pk_n, pk_c, rm_0, rm_1, rm_2, rm_3, rm_4, rm_5, rc_9, rcs, fvs, rf_s, rf_n, isI_i, isL_l, isR_r, isR_n, isR_q, ct_i, ct_l, ct_r, ct_n, ct_q, tFs, tCs, tKs, tJs, tSs, e_nf, lgs, ↓reduceIte, true_and, and_true, false_and, and_false, or_true, true_or, false_or, or_false, Nat.reduceAdd, Nat.reduceEqDiff, Nat.reduceDiv, Nat.reduceLT, Nat.reduceLeDiff, Nat.zero_add, reduceCtorEq, Bool.false_eq_true, Option.toList_some, Option.toList_none, List.cons_append, List.nil_append, not_true_eq_false, not_false_eq_true, Nat.sub_zero, dsX4_labelOf, jsX4_labelOf, xcX4_labelOf, h0, h1, h2, h3, ofs, ↓sp_X6_isKey]
  unfold labF at hq
  by_cases c1 : i < 0
  · simpa [c1] using hq
  · by_cases c2 : i < 8
    · have c3 := i_ge (n := 8) c1 c2 (by decide)
      simp only [c1, c2, c3, not_false_eq_true, and_self, if_true, if_false, true_and] at hq ⊢
      simpa using hq
    · simpa [c1, c2] using hq
def sp_X4_setLabel : SP := fun as M k n Q => match as with
  | [.ref s, .int i, .int v] => SR M s ∧ Q none (if ¬ i < 0 ∧ i < 8 then tI M (lb M s) i.toNatClampNeg v else M) k n
  | _ => False
def csX4_setLabel : CS := (cs_c 2 53 1 9 sp_X6_isKey cs_0)
theorem csoX4_setLabel : ∀ op x na cl sp, csX4_setLabel op x = some (na, cl, sp) → CallOK 4 1 20 op x na cl sp := (cs_c_ok (caX4_setLabel_53 okX6_isKey) cs_0_ok)
theorem xcX4_setLabel : (∀ (Q : QT) (G : GT) (pc : Nat) (L : LV) (a0 : Value) (r : List Value) (M : HM) (k n : Nat), ex_i 4 3 0 false csX4_setLabel Q G (.invokestatic 53) pc L (a0 :: r) M k n = (e_rm r ∧ e_rc M 9 [a0] ∧ sp_X6_isKey [a0] M k n (fun v M' k' n' => G (pc + 3) L (v.toList ++ r) M' k' n'))) := (fun _ _ _ _ _ _ _ _ _ => xv2_1 rfl)
theorem okX4_setLabel : OkX4_setLabel sp_X4_setLabel := by
  refine inX4_setLabel csoX4_setLabel ?_
  intro as M k n Q hsp
  unfold sp_X4_setLabel at hsp
  split at hsp
  rotate_left
  · exact hsp.elim
  rename_i s i v
  obtain ⟨⟨h0, ⟨h1, h2, h3⟩, -⟩, hq⟩ := hsp
  refine ⟨0, 0, Nat.zero_le _, Nat.zero_le _, Nat.le_of_ble_eq_true rfl, fun G hG => ?_⟩
  refine e_g2 hG [] 40 ?_
  simp only [e_wp_s, Option.getD_some, Option.isSome_some, Option.isSome_none, xis0, xis1, xis2, xis3, xis4, e_ks, lk_k, lk_c, List.lookup_nil, gt_c, vi_i, k1_n, k1_c, k2_n, k2_c, ar_n, ar_c, pk_n, pk_c, rm_0, rm_1, rm_2, rm_3, rm_4, rm_5, rc_9, rcs, fvs, rf_s, rf_n, isI_i, isL_l, isR_r, isR_n, isR_q, ct_i, ct_l, ct_r, ct_n, ct_q, tFs, tCs, tKs, tJs, tSs, e_nf, lgs, ↓reduceIte, true_and, and_true, false_and, and_false, or_true, true_or, false_or, or_false, Nat.reduceAdd, Nat.reduceEqDiff, Nat.reduceDiv, Nat.reduceLT, Nat.reduceLeDiff, Nat.zero_add, reduceCtorEq, Bool.false_eq_true, Option.toList_some, Option.toList_none, List.cons_append, List.nil_append, not_true_eq_false, not_false_eq_true, Nat.sub_zero, dsX4_setLabel, jsX4_setLabel, xcX4_setLabel, h0, h1, h2, h3, ofs, ↓sp_X6_isKey]
  by_cases c1 : i < 0
  · simpa [c1] using hq
  · by_cases c2 : i < 8
    · have c3 := i_ge (n := 8) c1 c2 (by decide)
      simp only [c1, c2, c3, not_false_eq_true, and_self, if_true, if_false, true_and] at hq ⊢
      simpa using hq
    · simpa [c1, c2] using hq
def sp_X4_bears : SP := fun as M k n Q => match as with
  | [.ref s, .int i, .int v] => SR M s ∧ Q (some (.int (if (¬ v < 0 ∧ v < 16) ∧ labF M s i = v then 1 else 0))) M k n
  | _ => False
def csX4_bears : CS := (cs_c 2 57 1 9 sp_X6_isLabel (cs_c 0 60 2 4 sp_X4_labelOf cs_0))
theorem csoX4_bears : ∀ op x na cl sp, csX4_bears op x = some (na, cl, sp) → CallOK 4 2 41 op x na cl sp := (cs_c_ok (caX4_bears_57 okX6_isLabel) (cs_c_ok (caX4_bears_60 okX4_labelOf) cs_0_ok))
theorem xcX4_bears : (∀ (Q : QT) (G : GT) (pc : Nat) (L : LV) (a0 : Value) (r : List Value) (M : HM) (k n : Nat), ex_i 4 3 4 false csX4_bears Q G (.invokestatic 57) pc L (a0 :: r) M k n = (e_rm r ∧ e_rc M 9 [a0] ∧ sp_X6_isLabel [a0] M k n (fun v M' k' n' => G (pc + 3) L (v.toList ++ r) M' k' n'))) ∧ (∀ (Q : QT) (G : GT) (pc : Nat) (L : LV) (a0 a1 : Value) (r : List Value) (M : HM) (k n : Nat), ex_i 4 3 4 false csX4_bears Q G (.invokevirtual 60) pc L (a1 :: a0 :: r) M k n = (e_rm r ∧ e_rc M 4 [a0, a1] ∧ sp_X4_labelOf [a0, a1] M k n (fun v M' k' n' => G (pc + 3) L (v.toList ++ r) M' k' n'))) := ⟨(fun _ _ _ _ _ _ _ _ _ => xv2_1 rfl), (fun _ _ _ _ _ _ _ _ _ _ => xv0_2 rfl)⟩
theorem okX4_bears : OkX4_bears sp_X4_bears := by
  refine inX4_bears csoX4_bears ?_
  intro as M k n Q hsp
  unfold sp_X4_bears at hsp
  split at hsp
  rotate_left
  · exact hsp.elim
  rename_i s i v
  obtain ⟨hs, hq⟩ := hsp
  have h0 := hs.1
  refine ⟨0, 0, Nat.zero_le _, Nat.zero_le _, Nat.le_of_ble_eq_true rfl, fun G hG => ?_⟩
  refine e_g2 hG [] 40 ?_
  simp only [e_wp_s, Option.getD_some, Option.isSome_some, Option.isSome_none, xis0, xis1, xis2, xis3, xis4, e_ks, lk_k, lk_c, List.lookup_nil, gt_c, vi_i, k1_n, k1_c, k2_n, k2_c, ar_n, ar_c, pk_n, pk_c, rm_0, rm_1, rm_2, rm_3, rm_4, rm_5, rc_9, rcs, fvs, rf_s, rf_n, isI_i, isL_l, isR_r, isR_n, isR_q, ct_i, ct_l, ct_r, ct_n, ct_q, tFs, tCs, tKs, tJs, tSs, e_nf, lgs, ↓reduceIte, true_and, and_true, false_and, and_false, or_true, true_or, false_or, or_false, Nat.reduceAdd, Nat.reduceEqDiff, Nat.reduceDiv, Nat.reduceLT, Nat.reduceLeDiff, Nat.zero_add, reduceCtorEq, Bool.false_eq_true, Option.toList_some, Option.toList_none, List.cons_append, List.nil_append, not_true_eq_false, not_false_eq_true, Nat.sub_zero, dsX4_bears, jsX4_bears, xcX4_bears, h0, hs, ↓sp_X6_isLabel, ↓sp_X4_labelOf]
  by_cases c1 : v < 0 <;> by_cases c2 : v < 16 <;> by_cases c3 : labF M s i = v <;> simpa [c1, c2, c3] using hq
def spF (M : HM) (s : Nat) (i : Int32) : Option Nat := if ¬ i < 0 ∧ i < mI M 131 s ∧ i < 60 then aR M (sps M s) i.toNatClampNeg else none
def csX4_spanAt : CS := cs_0
theorem csoX4_spanAt : ∀ op x na cl sp, csX4_spanAt op x = some (na, cl, sp) → CallOK 4 0 0 op x na cl sp := cs_0_ok
def sp_X4_spanAt : SP := fun as M k n Q => match as with
  | [.ref s, .int i] => SR M s ∧ Q (some (va_rf (spF M s i))) M k n
  | _ => False
theorem okX4_spanAt : OkX4_spanAt sp_X4_spanAt := by
  refine inX4_spanAt csoX4_spanAt ?_
  intro as M k n Q hsp
  unfold sp_X4_spanAt at hsp
  split at hsp
  rotate_left
  · exact hsp.elim
  rename_i s i
  obtain ⟨⟨h0, -, ⟨h1, h2, h3⟩, -⟩, hq⟩ := hsp
  refine ⟨0, 0, Nat.zero_le _, Nat.zero_le _, Nat.le_of_ble_eq_true rfl, fun G hG => ?_⟩
  refine e_g2 hG [] 40 ?_
  simp only [e_wp_s, Option.getD_some, Option.isSome_some, Option.isSome_none, xis0, xis1, xis2, xis3, xis4, e_ks, lk_k, lk_c, List.lookup_nil, gt_c, vi_i, k1_n, k1_c, k2_n, k2_c, ar_n, ar_c, pk_n, pk_c, rm_0, rm_1, rm_2, rm_3, rm_4, rm_5, rc_9, rcs, fvs, rf_s, rf_n, isI_i, isL_l, isR_r, isR_n, isR_q, ct_i, ct_l, ct_r, ct_n, ct_q, tFs, tCs, tKs, tJs, tSs, e_nf, lgs, ↓reduceIte, true_and, and_true, false_and, and_false, or_true, true_or, false_or, or_false, Nat.reduceAdd, Nat.reduceEqDiff, Nat.reduceDiv, Nat.reduceLT, Nat.reduceLeDiff, Nat.zero_add, reduceCtorEq, Bool.false_eq_true, Option.toList_some, Option.toList_none, List.cons_append, List.nil_append, not_true_eq_false, not_false_eq_true, Nat.sub_zero, dsX4_spanAt, jsX4_spanAt, h0, h1, h2, h3, ofs]
  unfold spF at hq
  by_cases c1 : i < 0
  · simpa [c1, rf_n] using hq
  · by_cases c2 : i < mI M 131 s
    · by_cases c4 : i < 60
      · have c3 := i_ge (n := 60) c1 c4 (by decide)
        simp only [c1, c2, c3, c4, not_false_eq_true, and_self, if_true, if_false, true_and] at hq ⊢
        exact hq
      · simpa [c1, c2, c4, rf_n] using hq
    · simpa [c1, c2, rf_n] using hq
def bkF (M : HM) (s : Nat) (i : Int32) : Option Nat := if ¬ i < 0 ∧ i < mI M 133 s ∧ i < 300 then aR M (bks M s) i.toNatClampNeg else none
def csX4_blockAt : CS := cs_0
theorem csoX4_blockAt : ∀ op x na cl sp, csX4_blockAt op x = some (na, cl, sp) → CallOK 4 0 0 op x na cl sp := cs_0_ok
def sp_X4_blockAt : SP := fun as M k n Q => match as with
  | [.ref s, .int i] => SR M s ∧ Q (some (va_rf (bkF M s i))) M k n
  | _ => False
theorem okX4_blockAt : OkX4_blockAt sp_X4_blockAt := by
  refine inX4_blockAt csoX4_blockAt ?_
  intro as M k n Q hsp
  unfold sp_X4_blockAt at hsp
  split at hsp
  rotate_left
  · exact hsp.elim
  rename_i s i
  obtain ⟨⟨h0, -, -, ⟨h1, h2, h3⟩, -⟩, hq⟩ := hsp
  refine ⟨0, 0, Nat.zero_le _, Nat.zero_le _, Nat.le_of_ble_eq_true rfl, fun G hG => ?_⟩
  refine e_g2 hG [] 40 ?_
  simp only [e_wp_s, Option.getD_some, Option.isSome_some, Option.isSome_none, xis0, xis1, xis2, xis3, xis4, e_ks, lk_k, lk_c, List.lookup_nil, gt_c, vi_i, k1_n, k1_c, k2_n, k2_c, ar_n, ar_c, pk_n, pk_c, rm_0, rm_1, rm_2, rm_3, rm_4, rm_5, rc_9, rcs, fvs, rf_s, rf_n, isI_i, isL_l, isR_r, isR_n, isR_q, ct_i, ct_l, ct_r, ct_n, ct_q, tFs, tCs, tKs, tJs, tSs, e_nf, lgs, ↓reduceIte, true_and, and_true, false_and, and_false, or_true, true_or, false_or, or_false, Nat.reduceAdd, Nat.reduceEqDiff, Nat.reduceDiv, Nat.reduceLT, Nat.reduceLeDiff, Nat.zero_add, reduceCtorEq, Bool.false_eq_true, Option.toList_some, Option.toList_none, List.cons_append, List.nil_append, not_true_eq_false, not_false_eq_true, Nat.sub_zero, dsX4_blockAt, jsX4_blockAt, h0, h1, h2, h3, ofs]
  unfold bkF at hq
  by_cases c1 : i < 0
  · simpa [c1, rf_n] using hq
  · by_cases c2 : i < mI M 133 s
    · by_cases c4 : i < 300
      · have c3 := i_ge (n := 300) c1 c4 (by decide)
        simp only [c1, c2, c3, c4, not_false_eq_true, and_self, if_true, if_false, true_and] at hq ⊢
        exact hq
      · simpa [c1, c2, c4, rf_n] using hq
    · simpa [c1, c2, rf_n] using hq
def seF (M : HM) (s : Nat) : Int32 := match spF M s (mI M 131 s - 1) with
  | none => 0
  | some p => mI M 161 p
def sp_X4_spansEnd : SP := fun as M k n Q => match as with
  | [.ref s] => SR M s ∧ (∀ p, spF M s (mI M 131 s - 1) = some p → mK M p = 6) ∧ Q (some (.int (seF M s))) M k n
  | _ => False
def csX4_spansEnd : CS := (cs_c 0 64 2 4 sp_X4_spanAt cs_0)
theorem csoX4_spansEnd : ∀ op x na cl sp, csX4_spansEnd op x = some (na, cl, sp) → CallOK 4 1 21 op x na cl sp := (cs_c_ok (caX4_spansEnd_64 okX4_spanAt) cs_0_ok)
theorem xcX4_spansEnd : (∀ (Q : QT) (G : GT) (pc : Nat) (L : LV) (a0 a1 : Value) (r : List Value) (M : HM) (k n : Nat), ex_i 4 2 1 false csX4_spansEnd Q G (.invokevirtual 64) pc L (a1 :: a0 :: r) M k n = (e_rm r ∧ e_rc M 4 [a0, a1] ∧ sp_X4_spanAt [a0, a1] M k n (fun v M' k' n' => G (pc + 3) L (v.toList ++ r) M' k' n'))) := (fun _ _ _ _ _ _ _ _ _ _ => xv0_2 rfl)
theorem okX4_spansEnd : OkX4_spansEnd sp_X4_spansEnd := by
  refine inX4_spansEnd csoX4_spansEnd ?_
  intro as M k n Q hsp
  unfold sp_X4_spansEnd at hsp
  split at hsp
  rotate_left
  · exact hsp.elim
  rename_i s
  obtain ⟨hs, hp, hq⟩ := hsp
  have h0 := hs.1
  refine ⟨0, 0, Nat.zero_le _, Nat.zero_le _, Nat.le_of_ble_eq_true rfl, fun G hG => ?_⟩
  refine e_g2 hG [] 40 ?_
  unfold seF at hq
  cases hf : spF M s (mI M 131 s - 1) with
  | none =>
    rw [hf] at hq
    simp only [e_wp_s, Option.getD_some, Option.isSome_some, Option.isSome_none, xis0, xis1, xis2, xis3, xis4, e_ks, lk_k, lk_c, List.lookup_nil, gt_c, vi_i, k1_n, k1_c, k2_n, k2_c, ar_n, ar_c, pk_n, pk_c, rm_0, rm_1, rm_2, rm_3, rm_4, rm_5, rc_9, rcs, fvs, rf_s, rf_n, isI_i, isL_l, isR_r, isR_n, isR_q, ct_i, ct_l, ct_r, ct_n, ct_q, tFs, tCs, tKs, tJs, tSs, e_nf, lgs, ↓reduceIte, true_and, and_true, false_and, and_false, or_true, true_or, false_or, or_false, Nat.reduceAdd, Nat.reduceEqDiff, Nat.reduceDiv, Nat.reduceLT, Nat.reduceLeDiff, Nat.zero_add, reduceCtorEq, Bool.false_eq_true, Option.toList_some, Option.toList_none, List.cons_append, List.nil_append, not_true_eq_false, not_false_eq_true, Nat.sub_zero, dsX4_spansEnd, jsX4_spansEnd, xcX4_spansEnd, h0, hs, hf, ↓sp_X4_spanAt]
    exact hq
  | some p =>
    rw [hf] at hq
    have hp := hp p hf
    simp only [e_wp_s, Option.getD_some, Option.isSome_some, Option.isSome_none, xis0, xis1, xis2, xis3, xis4, e_ks, lk_k, lk_c, List.lookup_nil, gt_c, vi_i, k1_n, k1_c, k2_n, k2_c, ar_n, ar_c, pk_n, pk_c, rm_0, rm_1, rm_2, rm_3, rm_4, rm_5, rc_9, rcs, fvs, rf_s, rf_n, isI_i, isL_l, isR_r, isR_n, isR_q, ct_i, ct_l, ct_r, ct_n, ct_q, tFs, tCs, tKs, tJs, tSs, e_nf, lgs, ↓reduceIte, true_and, and_true, false_and, and_false, or_true, true_or, false_or, or_false, Nat.reduceAdd, Nat.reduceEqDiff, Nat.reduceDiv, Nat.reduceLT, Nat.reduceLeDiff, Nat.zero_add, reduceCtorEq, Bool.false_eq_true, Option.toList_some, Option.toList_none, List.cons_append, List.nil_append, not_true_eq_false, not_false_eq_true, Nat.sub_zero, dsX4_spansEnd, jsX4_spansEnd, xcX4_spansEnd, h0, hs, hf, hp, ↓sp_X4_spanAt]
    exact hq
def csX4_hasLate : CS := cs_0
theorem csoX4_hasLate : ∀ op x na cl sp, csX4_hasLate op x = some (na, cl, sp) → CallOK 4 0 0 op x na cl sp := cs_0_ok
def sp_X4_hasLate : SP := fun as M k n Q => match as with
  | [.ref s, .int i] => mK M s = 5 ∧ Q (some (.int (if ¬ i < 0 ∧ i < mI M 136 s ∧ i < 40 then 1 else 0))) M k n
  | _ => False
theorem okX4_hasLate : OkX4_hasLate sp_X4_hasLate := by
  refine inX4_hasLate csoX4_hasLate ?_
  intro as M k n Q hsp
  unfold sp_X4_hasLate at hsp
  split at hsp
  rotate_left
  · exact hsp.elim
  rename_i s i
  obtain ⟨h0, hq⟩ := hsp
  refine ⟨0, 0, Nat.zero_le _, Nat.zero_le _, Nat.le_of_ble_eq_true rfl, fun G hG => ?_⟩
  refine e_g2 hG [] 40 ?_
  simp only [e_wp_s, Option.getD_some, Option.isSome_some, Option.isSome_none, xis0, xis1, xis2, xis3, xis4, e_ks, lk_k, lk_c, List.lookup_nil, gt_c, vi_i, k1_n, k1_c, k2_n, k2_c, ar_n, ar_c, pk_n, pk_c, rm_0, rm_1, rm_2, rm_3, rm_4, rm_5, rc_9, rcs, fvs, rf_s, rf_n, isI_i, isL_l, isR_r, isR_n, isR_q, ct_i, ct_l, ct_r, ct_n, ct_q, tFs, tCs, tKs, tJs, tSs, e_nf, lgs, ↓reduceIte, true_and, and_true, false_and, and_false, or_true, true_or, false_or, or_false, Nat.reduceAdd, Nat.reduceEqDiff, Nat.reduceDiv, Nat.reduceLT, Nat.reduceLeDiff, Nat.zero_add, reduceCtorEq, Bool.false_eq_true, Option.toList_some, Option.toList_none, List.cons_append, List.nil_append, not_true_eq_false, not_false_eq_true, Nat.sub_zero, dsX4_hasLate, jsX4_hasLate, h0]
  by_cases c1 : i < 0 <;> by_cases c2 : i < mI M 136 s <;> by_cases c3 : i < 40 <;> simpa [c1, c2, c3] using hq
def ltF (M : HM) (s : Nat) (i : Int32) : Int32 := if ¬ i < 0 ∧ i < mI M 136 s ∧ i < 40 then aI M (ltt M s) i.toNatClampNeg else 0
def sp_X4_lateTime : SP := fun as M k n Q => match as with
  | [.ref s, .int i] => SR M s ∧ Q (some (.int (ltF M s i))) M k n
  | _ => False
def csX4_lateTime : CS := (cs_c 0 134 2 4 sp_X4_hasLate cs_0)
theorem csoX4_lateTime : ∀ op x na cl sp, csX4_lateTime op x = some (na, cl, sp) → CallOK 4 1 21 op x na cl sp := (cs_c_ok (caX4_lateTime_134 okX4_hasLate) cs_0_ok)
theorem xcX4_lateTime : (∀ (Q : QT) (G : GT) (pc : Nat) (L : LV) (a0 a1 : Value) (r : List Value) (M : HM) (k n : Nat), ex_i 4 2 1 false csX4_lateTime Q G (.invokevirtual 134) pc L (a1 :: a0 :: r) M k n = (e_rm r ∧ e_rc M 4 [a0, a1] ∧ sp_X4_hasLate [a0, a1] M k n (fun v M' k' n' => G (pc + 3) L (v.toList ++ r) M' k' n'))) := (fun _ _ _ _ _ _ _ _ _ _ => xv0_2 rfl)
theorem okX4_lateTime : OkX4_lateTime sp_X4_lateTime := by
  refine inX4_lateTime csoX4_lateTime ?_
  intro as M k n Q hsp
  unfold sp_X4_lateTime at hsp
  split at hsp
  rotate_left
  · exact hsp.elim
  rename_i s i
  obtain ⟨⟨h0, -, -, -, ⟨h1, h2, h3⟩, -⟩, hq⟩ := hsp
  refine ⟨0, 0, Nat.zero_le _, Nat.zero_le _, Nat.le_of_ble_eq_true rfl, fun G hG => ?_⟩
  refine e_g2 hG [] 40 ?_
  simp only [e_wp_s, Option.getD_some, Option.isSome_some, Option.isSome_none, xis0, xis1, xis2, xis3, xis4, e_ks, lk_k, lk_c, List.lookup_nil, gt_c, vi_i, k1_n, k1_c, k2_n, k2_c, ar_n, ar_c, pk_n, pk_c, rm_0, rm_1, rm_2, rm_3, rm_4, rm_5, rc_9, rcs, fvs, rf_s, rf_n, isI_i, isL_l, isR_r, isR_n, isR_q, ct_i, ct_l, ct_r, ct_n, ct_q, tFs, tCs, tKs, tJs, tSs, e_nf, lgs, ↓reduceIte, true_and, and_true, false_and, and_false, or_true, true_or, false_or, or_false, Nat.reduceAdd, Nat.reduceEqDiff, Nat.reduceDiv, Nat.reduceLT, Nat.reduceLeDiff, Nat.zero_add, reduceCtorEq, Bool.false_eq_true, Option.toList_some, Option.toList_none, List.cons_append, List.nil_append, not_true_eq_false, not_false_eq_true, Nat.sub_zero, dsX4_lateTime, jsX4_lateTime, xcX4_lateTime, h0, h1, h2, h3, ↓sp_X4_hasLate]
  unfold ltF at hq
  by_cases c : ¬ i < 0 ∧ i < mI M 136 s ∧ i < 40
  · have c3 := i_ge (n := 40) c.1 c.2.2 (by decide)
    simp only [c, c3, if_true, true_and] at hq ⊢
    simpa using hq
  · simp only [c, if_false, if_true] at hq ⊢
    exact hq
def lvF (M : HM) (s : Nat) (i : Int32) : Int64 := if ¬ i < 0 ∧ i < mI M 136 s ∧ i < 40 then aL M (ltv M s) i.toNatClampNeg else 0
def sp_X4_lateValue : SP := fun as M k n Q => match as with
  | [.ref s, .int i] => SR M s ∧ Q (some (.long (lvF M s i))) M k n
  | _ => False
def csX4_lateValue : CS := (cs_c 0 134 2 4 sp_X4_hasLate cs_0)
theorem csoX4_lateValue : ∀ op x na cl sp, csX4_lateValue op x = some (na, cl, sp) → CallOK 4 1 21 op x na cl sp := (cs_c_ok (caX4_lateValue_134 okX4_hasLate) cs_0_ok)
theorem xcX4_lateValue : (∀ (Q : QT) (G : GT) (pc : Nat) (L : LV) (a0 a1 : Value) (r : List Value) (M : HM) (k n : Nat), ex_i 4 2 2 false csX4_lateValue Q G (.invokevirtual 134) pc L (a1 :: a0 :: r) M k n = (e_rm r ∧ e_rc M 4 [a0, a1] ∧ sp_X4_hasLate [a0, a1] M k n (fun v M' k' n' => G (pc + 3) L (v.toList ++ r) M' k' n'))) := (fun _ _ _ _ _ _ _ _ _ _ => xv0_2 rfl)
theorem okX4_lateValue : OkX4_lateValue sp_X4_lateValue := by
  refine inX4_lateValue csoX4_lateValue ?_
  intro as M k n Q hsp
  unfold sp_X4_lateValue at hsp
  split at hsp
  rotate_left
  · exact hsp.elim
  rename_i s i
  obtain ⟨⟨h0, -, -, -, -, ⟨h1, h2, h3⟩⟩, hq⟩ := hsp
  refine ⟨0, 0, Nat.zero_le _, Nat.zero_le _, Nat.le_of_ble_eq_true rfl, fun G hG => ?_⟩
  refine e_g2 hG [] 40 ?_
  simp only [e_wp_s, Option.getD_some, Option.isSome_some, Option.isSome_none, xis0, xis1, xis2, xis3, xis4, e_ks, lk_k, lk_c, List.lookup_nil, gt_c, vi_i, k1_n, k1_c, k2_n, k2_c, ar_n, ar_c, pk_n, pk_c, rm_0, rm_1, rm_2, rm_3, rm_4, rm_5, rc_9, rcs, fvs, rf_s, rf_n, isI_i, isL_l, isR_r, isR_n, isR_q, ct_i, ct_l, ct_r, ct_n, ct_q, tFs, tCs, tKs, tJs, tSs, e_nf, lgs, ↓reduceIte, true_and, and_true, false_and, and_false, or_true, true_or, false_or, or_false, Nat.reduceAdd, Nat.reduceEqDiff, Nat.reduceDiv, Nat.reduceLT, Nat.reduceLeDiff, Nat.zero_add, reduceCtorEq, Bool.false_eq_true, Option.toList_some, Option.toList_none, List.cons_append, List.nil_append, not_true_eq_false, not_false_eq_true, Nat.sub_zero, dsX4_lateValue, jsX4_lateValue, xcX4_lateValue, h0, h1, h2, h3, ↓sp_X4_hasLate]
  unfold lvF at hq
  by_cases c : ¬ i < 0 ∧ i < mI M 136 s ∧ i < 40
  · have c3 := i_ge (n := 40) c.1 c.2.2 (by decide)
    simp only [c, c3, if_true, true_and] at hq ⊢
    simpa using hq
  · simp only [c, if_false, if_true] at hq ⊢
    exact hq
