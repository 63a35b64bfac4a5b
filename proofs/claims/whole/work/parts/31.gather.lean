/-! Gatherer: its arrays; add, timeOf, valueAt, begin -/
def gta (M : HM) (g : Nat) : Nat := (mR M 32 g).getD 0
def gva (M : HM) (g : Nat) : Nat := (mR M 33 g).getD 0
def grd (M : HM) (g : Nat) : Nat := (mR M 38 g).getD 0
def GR (M : HM) (g : Nat) : Prop := mK M g = 2 ∧ (mR M 32 g = some (gta M g) ∧ mK M (gta M g) = 9 ∧ mN M (gta M g) = 340) ∧ (mR M 33 g = some (gva M g) ∧ mK M (gva M g) = 10 ∧ mN M (gva M g) = 340) ∧ (mR M 38 g = some (grd M g) ∧ mK M (grd M g) = 4)
def csX1_add : CS := cs_0
theorem csoX1_add : ∀ op x na cl sp, csX1_add op x = some (na, cl, sp) → CallOK 1 0 0 op x na cl sp := cs_0_ok
def sp_X1_add : SP := fun as M k n Q => match as with
  | [.ref g, .int t, .long v] => ∃ c, GR M g ∧ mI M 34 g = nI c ∧ c < 340 ∧ Q none (sI (tL (tI M (gta M g) c t) (gva M g) c v) 34 g (nI (c + 1))) k n
  | _ => False
theorem okX1_add : OkX1_add sp_X1_add := by
  refine inX1_add csoX1_add ?_
  intro as M k n Q hsp
  unfold sp_X1_add at hsp
  split at hsp
  rotate_left
  · exact hsp.elim
  rename_i g t v
  obtain ⟨c, ⟨h0, ⟨h1, h2, h3⟩, ⟨h4, h5, h6⟩, -⟩, hc, hc2, hq⟩ := hsp
  have e1 : ¬ nI c < 0 := nI_pos (by omega)
  have e2 : nI c < 340 := nI_lt (b := 340) hc2 (by decide)
  have e3 : (nI c).toNatClampNeg = c := nI_clamp (by omega)
  have e4 : vp_in (nI c) 340 := vp_in_nI hc2 (by decide)
  refine ⟨0, 0, Nat.zero_le _, Nat.zero_le _, Nat.le_of_ble_eq_true rfl, fun G hG => ?_⟩
  refine e_g2 hG [] 60 ?_
  simp only [e_wp_s, Option.getD_some, Option.isSome_some, Option.isSome_none, xis0, xis1, xis2, xis3, xis4, e_ks, lk_k, lk_c, List.lookup_nil, gt_c, vi_i, k1_n, k1_c, k2_n, k2_c, ar_n, ar_c, pk_n, pk_c, rm_0, rm_1, rm_2, rm_3, rm_4, rm_5, rc_9, rcs, fvs, rf_s, rf_n, isI_i, isL_l, isR_r, isR_n, isR_q, ct_i, ct_l, ct_r, ct_n, ct_q, tFs, tCs, tKs, tJs, tSs, e_nf, lgs, ↓reduceIte, true_and, and_true, false_and, and_false, or_true, true_or, false_or, or_false, Nat.reduceAdd, Nat.reduceEqDiff, Nat.reduceDiv, Nat.reduceLT, Nat.reduceLeDiff, Nat.zero_add, reduceCtorEq, Bool.false_eq_true, Option.toList_some, Option.toList_none, List.cons_append, List.nil_append, not_true_eq_false, not_false_eq_true, Nat.sub_zero, dsX1_add, jsX1_add, h0, h1, h2, h3, h4, h5, h6, hc, e1, e2, e3, e4, ofs, hmK, hmN, hmI, hmL, hmR, haI, haL, haR, nI_1]
  exact hq
def tmF (M : HM) (g : Nat) (i : Int32) : Int32 := if ¬ i < 0 ∧ i < mI M 34 g ∧ i < 340 then aI M (gta M g) i.toNatClampNeg else 0
def vlF (M : HM) (g : Nat) (i : Int32) : Int64 := if ¬ i < 0 ∧ i < mI M 34 g ∧ i < 340 then aL M (gva M g) i.toNatClampNeg else 0
def csX1_timeOf : CS := cs_0
theorem csoX1_timeOf : ∀ op x na cl sp, csX1_timeOf op x = some (na, cl, sp) → CallOK 1 0 0 op x na cl sp := cs_0_ok
def sp_X1_timeOf : SP := fun as M k n Q => match as with
  | [.ref g, .int i] => GR M g ∧ Q (some (.int (tmF M g i))) M k n
  | _ => False
theorem okX1_timeOf : OkX1_timeOf sp_X1_timeOf := by
  refine inX1_timeOf csoX1_timeOf ?_
  intro as M k n Q hsp
  unfold sp_X1_timeOf at hsp
  split at hsp
  rotate_left
  · exact hsp.elim
  rename_i g i
  obtain ⟨⟨h0, ⟨h1, h2, h3⟩, -⟩, hq⟩ := hsp
  refine ⟨0, 0, Nat.zero_le _, Nat.zero_le _, Nat.le_of_ble_eq_true rfl, fun G hG => ?_⟩
  refine e_g2 hG [] 60 ?_
  simp only [e_wp_s, Option.getD_some, Option.isSome_some, Option.isSome_none, xis0, xis1, xis2, xis3, xis4, e_ks, lk_k, lk_c, List.lookup_nil, gt_c, vi_i, k1_n, k1_c, k2_n, k2_c, ar_n, ar_c, pk_n, pk_c, rm_0, rm_1, rm_2, rm_3, rm_4, rm_5, rc_9, rcs, fvs, rf_s, rf_n, isI_i, isL_l, isR_r, isR_n, isR_q, ct_i, ct_l, ct_r, ct_n, ct_q, tFs, tCs, tKs, tJs, tSs, e_nf, lgs, ↓reduceIte, true_and, and_true, false_and, and_false, or_true, true_or, false_or, or_false, Nat.reduceAdd, Nat.reduceEqDiff, Nat.reduceDiv, Nat.reduceLT, Nat.reduceLeDiff, Nat.zero_add, reduceCtorEq, Bool.false_eq_true, Option.toList_some, Option.toList_none, List.cons_append, List.nil_append, not_true_eq_false, not_false_eq_true, Nat.sub_zero, dsX1_timeOf, jsX1_timeOf, h0, h1, h2, h3, ofs]
  unfold tmF at hq
  by_cases c1 : i < 0
  · simpa [c1] using hq
  · by_cases c2 : i < mI M 34 g
    · by_cases c4 : i < 340
      · have c3 := i_ge (n := 340) c1 c4 (by decide)
        simp only [c1, c2, c3, c4, not_false_eq_true, and_self, if_true, if_false, true_and] at hq ⊢
        exact hq
      · simpa [c1, c2, c4] using hq
    · simpa [c1, c2] using hq
def csX1_valueAt : CS := cs_0
theorem csoX1_valueAt : ∀ op x na cl sp, csX1_valueAt op x = some (na, cl, sp) → CallOK 1 0 0 op x na cl sp := cs_0_ok
def sp_X1_valueAt : SP := fun as M k n Q => match as with
  | [.ref g, .int i] => GR M g ∧ Q (some (.long (vlF M g i))) M k n
  | _ => False
theorem okX1_valueAt : OkX1_valueAt sp_X1_valueAt := by
  refine inX1_valueAt csoX1_valueAt ?_
  intro as M k n Q hsp
  unfold sp_X1_valueAt at hsp
  split at hsp
  rotate_left
  · exact hsp.elim
  rename_i g i
  obtain ⟨⟨h0, -, ⟨h1, h2, h3⟩, -⟩, hq⟩ := hsp
  refine ⟨0, 0, Nat.zero_le _, Nat.zero_le _, Nat.le_of_ble_eq_true rfl, fun G hG => ?_⟩
  refine e_g2 hG [] 60 ?_
  simp only [e_wp_s, Option.getD_some, Option.isSome_some, Option.isSome_none, xis0, xis1, xis2, xis3, xis4, e_ks, lk_k, lk_c, List.lookup_nil, gt_c, vi_i, k1_n, k1_c, k2_n, k2_c, ar_n, ar_c, pk_n, pk_c, rm_0, rm_1, rm_2, rm_3, rm_4, rm_5, rc_9, rcs, fvs, rf_s, rf_n, isI_i, isL_l, isR_r, isR_n, isR_q, ct_i, ct_l, ct_r, ct_n, ct_q, tFs, tCs, tKs, tJs, tSs, e_nf, lgs, ↓reduceIte, true_and, and_true, false_and, and_false, or_true, true_or, false_or, or_false, Nat.reduceAdd, Nat.reduceEqDiff, Nat.reduceDiv, Nat.reduceLT, Nat.reduceLeDiff, Nat.zero_add, reduceCtorEq, Bool.false_eq_true, Option.toList_some, Option.toList_none, List.cons_append, List.nil_append, not_true_eq_false, not_false_eq_true, Nat.sub_zero, dsX1_valueAt, jsX1_valueAt, h0, h1, h2, h3, ofs]
  unfold vlF at hq
  by_cases c1 : i < 0
  · simpa [c1] using hq
  · by_cases c2 : i < mI M 34 g
    · by_cases c4 : i < 340
      · have c3 := i_ge (n := 340) c1 c4 (by decide)
        simp only [c1, c2, c3, c4, not_false_eq_true, and_self, if_true, if_false, true_and] at hq ⊢
        exact hq
      · simpa [c1, c2, c4] using hq
    · simpa [c1, c2] using hq
def bgM (M : HM) (g : Nat) (x y z : Int32) : HM := sI (sI (sI (sI M 34 g 0) 35 g x) 36 g y) 37 g z
def sp_X1_begin : SP := fun as M k n Q => match as with
  | [.ref g, .ref s, .int x, .int y] => ∃ c, mK M g = 2 ∧ SR M s ∧ mI M 136 s = nI c ∧ c ≤ 40 ∧ Q none (bgM M g x y (nI (lbn (aI M (ltt M s)) x c 0))) k n
  | _ => False
theorem SRs : (∀ M f a v s, SR (sI M f a v) s = SR M s) ∧ (∀ M f a v s, SR (sL M f a v) s = SR M s) ∧ (∀ M f a v s, SR (tI M f a v) s = SR M s) ∧ (∀ M f a v s, SR (tL M f a v) s = SR M s) ∧ (∀ M f a v s, SR (tR M f a v) s = SR M s) ∧ (∀ M f a v s, ltt (sI M f a v) s = ltt M s) := ⟨fun _ _ _ _ _ => rfl, fun _ _ _ _ _ => rfl, fun _ _ _ _ _ => rfl, fun _ _ _ _ _ => rfl, fun _ _ _ _ _ => rfl, fun _ _ _ _ _ => rfl⟩
def csX1_begin : CS := (cs_c 0 39 2 4 sp_X4_lateBelow cs_0)
theorem csoX1_begin : ∀ op x na cl sp, csX1_begin op x = some (na, cl, sp) → CallOK 1 3 64 op x na cl sp := (cs_c_ok (caX1_begin_39 okX4_lateBelow) cs_0_ok)
theorem xcX1_begin : (∀ (Q : QT) (G : GT) (pc : Nat) (L : LV) (a0 a1 : Value) (r : List Value) (M : HM) (k n : Nat), ex_i 1 4 0 false csX1_begin Q G (.invokevirtual 39) pc L (a1 :: a0 :: r) M k n = (e_rm r ∧ e_rc M 4 [a0, a1] ∧ sp_X4_lateBelow [a0, a1] M k n (fun v M' k' n' => G (pc + 3) L (v.toList ++ r) M' k' n'))) := (fun _ _ _ _ _ _ _ _ _ _ => xv0_2 rfl)
theorem okX1_begin : OkX1_begin sp_X1_begin := by
  refine inX1_begin csoX1_begin ?_
  intro as M k n Q hsp
  unfold sp_X1_begin at hsp
  split at hsp
  rotate_left
  · exact hsp.elim
  rename_i g s x y
  obtain ⟨c, h0, hs, hc, h40, hq⟩ := hsp
  have hs0 := hs.1
  refine ⟨0, 0, Nat.zero_le _, Nat.zero_le _, Nat.le_of_ble_eq_true rfl, fun G hG => ?_⟩
  refine e_g2 hG [] 60 ?_
  simp only [e_wp_s, Option.getD_some, Option.isSome_some, Option.isSome_none, xis0, xis1, xis2, xis3, xis4, e_ks, lk_k, lk_c, List.lookup_nil, gt_c, vi_i, k1_n, k1_c, k2_n, k2_c, ar_n, ar_c, pk_n, pk_c, rm_0, rm_1, rm_2, rm_3, rm_4, rm_5, rc_9, rcs, fvs, rf_s, rf_n, isI_i, isL_l, isR_r, isR_n, isR_q, ct_i, ct_l, ct_r, ct_n, ct_q, tFs, tCs, tKs, tJs, tSs, e_nf, lgs, ↓reduceIte, true_and, and_true, false_and, and_false, or_true, true_or, false_or, or_false, Nat.reduceAdd, Nat.reduceEqDiff, Nat.reduceDiv, Nat.reduceLT, Nat.reduceLeDiff, Nat.zero_add, reduceCtorEq, Bool.false_eq_true, Option.toList_some, Option.toList_none, List.cons_append, List.nil_append, not_true_eq_false, not_false_eq_true, Nat.sub_zero, dsX1_begin, xcX1_begin, h0, hs0, hs, ↓sp_X4_lateBelow, hmK, hmN, hmI, hmL, hmR, haI, haL, haR, SRs]
  exact ⟨c, hc, h40, hq⟩
def csX2_begin : CS := cs_0
theorem csoX2_begin : ∀ op x na cl sp, csX2_begin op x = some (na, cl, sp) → CallOK 2 0 0 op x na cl sp := cs_0_ok
def qbM (M : HM) (q : Nat) (x y : Int32) : HM := sI (sI (sI (sL (sL (sL (sI (sI (sI M 64 q x) 65 q y) 66 q 0) 67 q 0) 68 q 0) 69 q 0) 70 q 0) 71 q 0) 72 q 0
def sp_X2_begin : SP := fun as M k n Q => match as with
  | [.ref q, .int x, .int y] => mK M q = 3 ∧ Q none (qbM M q x y) k n
  | _ => False
theorem okX2_begin : OkX2_begin sp_X2_begin := by
  refine inX2_begin csoX2_begin ?_
  intro as M k n Q hsp
  unfold sp_X2_begin at hsp
  split at hsp
  rotate_left
  · exact hsp.elim
  rename_i q x y
  obtain ⟨h0, hq⟩ := hsp
  refine ⟨0, 0, Nat.zero_le _, Nat.zero_le _, Nat.le_of_ble_eq_true rfl, fun G hG => ?_⟩
  refine e_g2 hG [] 60 ?_
  simp only [e_wp_s, Option.getD_some, Option.isSome_some, Option.isSome_none, xis0, xis1, xis2, xis3, xis4, e_ks, lk_k, lk_c, List.lookup_nil, gt_c, vi_i, k1_n, k1_c, k2_n, k2_c, ar_n, ar_c, pk_n, pk_c, rm_0, rm_1, rm_2, rm_3, rm_4, rm_5, rc_9, rcs, fvs, rf_s, rf_n, isI_i, isL_l, isR_r, isR_n, isR_q, ct_i, ct_l, ct_r, ct_n, ct_q, tFs, tCs, tKs, tJs, tSs, e_nf, lgs, ↓reduceIte, true_and, and_true, false_and, and_false, or_true, true_or, false_or, or_false, Nat.reduceAdd, Nat.reduceEqDiff, Nat.reduceDiv, Nat.reduceLT, Nat.reduceLeDiff, Nat.zero_add, reduceCtorEq, Bool.false_eq_true, Option.toList_some, Option.toList_none, List.cons_append, List.nil_append, not_true_eq_false, not_false_eq_true, Nat.sub_zero, dsX2_begin, h0, hmK, hmN, hmI, hmL, hmR, haI, haL, haR]
  exact hq
def csX2_init : CS := (cs_c 1 1 1 9 sp_obj cs_0)
theorem csoX2_init : ∀ op x na cl sp, csX2_init op x = some (na, cl, sp) → CallOK 2 1 20 op x na cl sp := (cs_c_ok caX2_init_1 cs_0_ok)
theorem xcX2_init : (∀ (Q : QT) (G : GT) (pc : Nat) (L : LV) (a0 : Value) (r : List Value) (M : HM) (k n : Nat), ex_i 2 1 0 true csX2_init Q G (.invokespecial 1) pc L (a0 :: r) M k n = (e_rm r ∧ e_rc M 9 [a0] ∧ sp_obj [a0] M k n (fun v M' k' n' => G (pc + 3) L (v.toList ++ r) M' k' n'))) := (fun _ _ _ _ _ _ _ _ _ => xv1_1 rfl)
def sp_X2_init : SP := fun as M k n Q => match as with
  | [.ref q] => mK M q = 3 ∧ Q none (qbM M q 0 0) k n
  | _ => False
theorem okX2_init : OkX2_init sp_X2_init := by
  refine inX2_init csoX2_init ?_
  intro as M k n Q hsp
  unfold sp_X2_init at hsp
  split at hsp
  rotate_left
  · exact hsp.elim
  rename_i q
  obtain ⟨h0, hq⟩ := hsp
  refine ⟨0, 0, Nat.zero_le _, Nat.zero_le _, Nat.le_of_ble_eq_true rfl, fun G hG => ?_⟩
  refine e_g2 hG [] 60 ?_
  simp only [e_wp_s, Option.getD_some, Option.isSome_some, Option.isSome_none, xis0, xis1, xis2, xis3, xis4, e_ks, lk_k, lk_c, List.lookup_nil, gt_c, vi_i, k1_n, k1_c, k2_n, k2_c, ar_n, ar_c, pk_n, pk_c, rm_0, rm_1, rm_2, rm_3, rm_4, rm_5, rc_9, rcs, fvs, rf_s, rf_n, isI_i, isL_l, isR_r, isR_n, isR_q, ct_i, ct_l, ct_r, ct_n, ct_q, tFs, tCs, tKs, tJs, tSs, e_nf, lgs, ↓reduceIte, true_and, and_true, false_and, and_false, or_true, true_or, false_or, or_false, Nat.reduceAdd, Nat.reduceEqDiff, Nat.reduceDiv, Nat.reduceLT, Nat.reduceLeDiff, Nat.zero_add, reduceCtorEq, Bool.false_eq_true, Option.toList_some, Option.toList_none, List.cons_append, List.nil_append, not_true_eq_false, not_false_eq_true, Nat.sub_zero, dsX2_init, xcX2_init, h0, hmK, hmN, hmI, hmL, hmR, haI, haL, haR, ↓obj_e]
  exact hq
def csX2_found : CS := (cs_c 2 118 2 9 sp_minL (cs_c 2 124 2 9 sp_maxL cs_0))
theorem csoX2_found : ∀ op x na cl sp, csX2_found op x = some (na, cl, sp) → CallOK 2 1 23 op x na cl sp := (cs_c_ok caX2_found_118 (cs_c_ok caX2_found_124 cs_0_ok))
theorem xcX2_found : (∀ (Q : QT) (G : GT) (pc : Nat) (L : LV) (a0 a1 : Value) (r : List Value) (M : HM) (k n : Nat), ex_i 2 8 0 false csX2_found Q G (.invokestatic 118) pc L (a1 :: a0 :: r) M k n = (e_rm r ∧ e_rc M 9 [a0, a1] ∧ sp_minL [a0, a1] M k n (fun v M' k' n' => G (pc + 3) L (v.toList ++ r) M' k' n'))) ∧ (∀ (Q : QT) (G : GT) (pc : Nat) (L : LV) (a0 a1 : Value) (r : List Value) (M : HM) (k n : Nat), ex_i 2 8 0 false csX2_found Q G (.invokestatic 124) pc L (a1 :: a0 :: r) M k n = (e_rm r ∧ e_rc M 9 [a0, a1] ∧ sp_maxL [a0, a1] M k n (fun v M' k' n' => G (pc + 3) L (v.toList ++ r) M' k' n'))) := ⟨(fun _ _ _ _ _ _ _ _ _ _ => xv2_2 rfl), (fun _ _ _ _ _ _ _ _ _ _ => xv2_2 rfl)⟩
def fdM (M : HM) (q : Nat) (c : Int32) (t lo hi : Int64) : HM := sL (sI (sL (sL M 68 q (if mI M 66 q = 0 then lo else if lo < mL M 68 q then lo else mL M 68 q)) 69 q (if mI M 66 q = 0 then hi else if hi < mL M 69 q then mL M 69 q else hi)) 66 q (mI M 66 q + c)) 67 q (mL M 67 q + t)
def sp_X2_found : SP := fun as M k n Q => match as with
  | [.ref q, .int c, .long t, .long lo, .long hi] => mK M q = 3 ∧ Q none (fdM M q c t lo hi) k n
  | _ => False
theorem okX2_found : OkX2_found sp_X2_found := by
  refine inX2_found csoX2_found ?_
  intro as M k n Q hsp
  unfold sp_X2_found at hsp
  split at hsp
  rotate_left
  · exact hsp.elim
  rename_i q c t lo hi
  obtain ⟨h0, hq⟩ := hsp
  refine ⟨0, 0, Nat.zero_le _, Nat.zero_le _, Nat.le_of_ble_eq_true rfl, fun G hG => ?_⟩
  refine e_g2 hG [] 60 ?_
  unfold fdM at hq
  by_cases c1 : mI M 66 q = 0
  · simp only [c1, if_true] at hq
    simp only [e_wp_s, Option.getD_some, Option.isSome_some, Option.isSome_none, xis0, xis1, xis2, xis3, xis4, e_ks, lk_k, lk_c, List.lookup_nil, gt_c, vi_i, k1_n, k1_c, k2_n, k2_c, ar_n, ar_c, pk_n, pk_c, rm_0, rm_1, rm_2, rm_3, rm_4, rm_5, rc_9, rcs, fvs, rf_s, rf_n, isI_i, isL_l, isR_r, isR_n, isR_q, ct_i, ct_l, ct_r, ct_n, ct_q, tFs, tCs, tKs, tJs, tSs, e_nf, lgs, ↓reduceIte, true_and, and_true, false_and, and_false, or_true, true_or, false_or, or_false, Nat.reduceAdd, Nat.reduceEqDiff, Nat.reduceDiv, Nat.reduceLT, Nat.reduceLeDiff, Nat.zero_add, reduceCtorEq, Bool.false_eq_true, Option.toList_some, Option.toList_none, List.cons_append, List.nil_append, not_true_eq_false, not_false_eq_true, Nat.sub_zero, dsX2_found, jsX2_found, xcX2_found, h0, hmK, hmN, hmI, hmL, hmR, haI, haL, haR, c1, ↓minL_e, ↓maxL_e]
    exact hq
  · simp only [c1, if_false] at hq
    simp only [e_wp_s, Option.getD_some, Option.isSome_some, Option.isSome_none, xis0, xis1, xis2, xis3, xis4, e_ks, lk_k, lk_c, List.lookup_nil, gt_c, vi_i, k1_n, k1_c, k2_n, k2_c, ar_n, ar_c, pk_n, pk_c, rm_0, rm_1, rm_2, rm_3, rm_4, rm_5, rc_9, rcs, fvs, rf_s, rf_n, isI_i, isL_l, isR_r, isR_n, isR_q, ct_i, ct_l, ct_r, ct_n, ct_q, tFs, tCs, tKs, tJs, tSs, e_nf, lgs, ↓reduceIte, true_and, and_true, false_and, and_false, or_true, true_or, false_or, or_false, Nat.reduceAdd, Nat.reduceEqDiff, Nat.reduceDiv, Nat.reduceLT, Nat.reduceLeDiff, Nat.zero_add, reduceCtorEq, Bool.false_eq_true, Option.toList_some, Option.toList_none, List.cons_append, List.nil_append, not_true_eq_false, not_false_eq_true, Nat.sub_zero, dsX2_found, jsX2_found, xcX2_found, h0, hmK, hmN, hmI, hmL, hmR, haI, haL, haR, c1, ↓minL_e, ↓maxL_e]
    exact hq
