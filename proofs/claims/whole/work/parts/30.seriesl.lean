/-! Series: loops that read -/
def lbn (g : Nat → Int32) (t : Int32) : Nat → Nat → Nat
  | 0, j => j
  | d + 1, j => if g j < t then lbn g t d (j + 1) else j
theorem ltF_at {M : HM} {s c j : Nat} (hc : mI M 136 s = nI c) (h40 : c ≤ 40) (hj : j < c) : ltF M s (nI j) = aI M (ltt M s) j := by
  have e1 : ¬ nI j < 0 := nI_pos (by omega)
  have e2 : nI j < nI c := nI_lt hj (by omega)
  have e3 : nI j < 40 := nI_lt (b := 40) (by omega) (by decide)
  have e4 : (nI j).toNatClampNeg = j := nI_clamp (by omega)
  unfold ltF
  rw [hc, if_pos ⟨e1, e2, e3⟩, e4]
theorem lvF_at {M : HM} {s c j : Nat} (hc : mI M 136 s = nI c) (h40 : c ≤ 40) (hj : j < c) : lvF M s (nI j) = aL M (ltv M s) j := by
  have e1 : ¬ nI j < 0 := nI_pos (by omega)
  have e2 : nI j < nI c := nI_lt hj (by omega)
  have e3 : nI j < 40 := nI_lt (b := 40) (by omega) (by decide)
  have e4 : (nI j).toNatClampNeg = j := nI_clamp (by omega)
  unfold lvF
  rw [hc, if_pos ⟨e1, e2, e3⟩, e4]
def sp_X4_lateBelow : SP := fun as M k n Q => match as with
  | [.ref s, .int t] => ∃ c, SR M s ∧ mI M 136 s = nI c ∧ c ≤ 40 ∧ Q (some (.int (nI (lbn (aI M (ltt M s)) t c 0)))) M k n
  | _ => False
def csX4_lateBelow : CS := (cs_c 0 137 2 4 sp_X4_lateTime cs_0)
theorem csoX4_lateBelow : ∀ op x na cl sp, csX4_lateBelow op x = some (na, cl, sp) → CallOK 4 2 42 op x na cl sp := (cs_c_ok (caX4_lateBelow_137 okX4_lateTime) cs_0_ok)
theorem xcX4_lateBelow : (∀ (Q : QT) (G : GT) (pc : Nat) (L : LV) (a0 a1 : Value) (r : List Value) (M : HM) (k n : Nat), ex_i 4 3 1 false csX4_lateBelow Q G (.invokevirtual 137) pc L (a1 :: a0 :: r) M k n = (e_rm r ∧ e_rc M 4 [a0, a1] ∧ sp_X4_lateTime [a0, a1] M k n (fun v M' k' n' => G (pc + 3) L (v.toList ++ r) M' k' n'))) := (fun _ _ _ _ _ _ _ _ _ _ => xv0_2 rfl)
theorem okX4_lateBelow : OkX4_lateBelow sp_X4_lateBelow := by
  refine inX4_lateBelow csoX4_lateBelow ?_
  intro as M k n Q hsp
  unfold sp_X4_lateBelow at hsp
  split at hsp
  rotate_left
  · exact hsp.elim
  rename_i s t
  obtain ⟨c, hs, hc, h40, hq⟩ := hsp
  have h0 := hs.1
  refine ⟨0, 0, Nat.zero_le _, Nat.zero_le _, Nat.le_of_ble_eq_true rfl, fun G hG => ?_⟩
  have loop : ∀ d j : Nat, j + d = c → Q (some (.int (nI (lbn (aI M (ltt M s)) t d j)))) M k n → G 2 [(0, .ref s), (1, .int t), (2, .int (nI j))] [] M 0 0 := by
    intro d
    induction d with
    | zero =>
      intro j hj hQ
      have e1 : ¬ nI j < nI c := nI_nlt (by omega) (by omega)
      refine e_g2 hG [(2, [0, 1, 2])] 40 ?_
      simp only [e_wp_s, Option.getD_some, Option.isSome_some, Option.isSome_none, xis0, xis1, xis2, xis3, xis4, e_ks, lk_k, lk_c, List.lookup_nil, gt_c, vi_i, k1_n, k1_c, k2_n, k2_c, ar_n, ar_c, pk_n, pk_c, rm_0, rm_1, rm_2, rm_3, rm_4, rm_5, rc_9, rcs, fvs, rf_s, rf_n, isI_i, isL_l, isR_r, isR_n, isR_q, ct_i, ct_l, ct_r, ct_n, ct_q, tFs, tCs, tKs, tJs, tSs, e_nf, lgs, ↓reduceIte, true_and, and_true, false_and, and_false, or_true, true_or, false_or, or_false, Nat.reduceAdd, Nat.reduceEqDiff, Nat.reduceDiv, Nat.reduceLT, Nat.reduceLeDiff, Nat.zero_add, reduceCtorEq, Bool.false_eq_true, Option.toList_some, Option.toList_none, List.cons_append, List.nil_append, not_true_eq_false, not_false_eq_true, Nat.sub_zero, dsX4_lateBelow, jsX4_lateBelow, xcX4_lateBelow, e1, h0, hc]
      exact hQ
    | succ d ih =>
      intro j hj hQ
      have e1 : nI j < nI c := nI_lt (by omega) (by omega)
      have e2 := ltF_at hc h40 (j := j) (by omega)
      refine e_g2 hG [(2, [0, 1, 2])] 40 ?_
      simp only [e_wp_s, Option.getD_some, Option.isSome_some, Option.isSome_none, xis0, xis1, xis2, xis3, xis4, e_ks, lk_k, lk_c, List.lookup_nil, gt_c, vi_i, k1_n, k1_c, k2_n, k2_c, ar_n, ar_c, pk_n, pk_c, rm_0, rm_1, rm_2, rm_3, rm_4, rm_5, rc_9, rcs, fvs, rf_s, rf_n, isI_i, isL_l, isR_r, isR_n, isR_q, ct_i, ct_l, ct_r, ct_n, ct_q, tFs, tCs, tKs, tJs, tSs, e_nf, lgs, ↓reduceIte, true_and, and_true, false_and, and_false, or_true, true_or, false_or, or_false, Nat.reduceAdd, Nat.reduceEqDiff, Nat.reduceDiv, Nat.reduceLT, Nat.reduceLeDiff, Nat.zero_add, reduceCtorEq, Bool.false_eq_true, Option.toList_some, Option.toList_none, List.cons_append, List.nil_append, not_true_eq_false, not_false_eq_true, Nat.sub_zero, dsX4_lateBelow, jsX4_lateBelow, xcX4_lateBelow, e1, h0, hs, hc, e2, ↓sp_X4_lateTime, nI_1]
      rw [lbn] at hQ
      by_cases c1 : aI M (ltt M s) j < t
      · simp only [c1, if_true] at hQ ⊢
        exact ih (j + 1) (by omega) hQ
      · simp only [c1, if_false] at hQ ⊢
        exact hQ
  refine e_g2 hG [(2, [0, 1, 2])] 40 ?_
  simp only [e_wp_s, Option.getD_some, Option.isSome_some, Option.isSome_none, xis0, xis1, xis2, xis3, xis4, e_ks, lk_k, lk_c, List.lookup_nil, gt_c, vi_i, k1_n, k1_c, k2_n, k2_c, ar_n, ar_c, pk_n, pk_c, rm_0, rm_1, rm_2, rm_3, rm_4, rm_5, rc_9, rcs, fvs, rf_s, rf_n, isI_i, isL_l, isR_r, isR_n, isR_q, ct_i, ct_l, ct_r, ct_n, ct_q, tFs, tCs, tKs, tJs, tSs, e_nf, lgs, ↓reduceIte, true_and, and_true, false_and, and_false, or_true, true_or, false_or, or_false, Nat.reduceAdd, Nat.reduceEqDiff, Nat.reduceDiv, Nat.reduceLT, Nat.reduceLeDiff, Nat.zero_add, reduceCtorEq, Bool.false_eq_true, Option.toList_some, Option.toList_none, List.cons_append, List.nil_append, not_true_eq_false, not_false_eq_true, Nat.sub_zero, dsX4_lateBelow, jsX4_lateBelow, xcX4_lateBelow]
  exact loop c 0 (by omega) hq
theorem lbn_le (g : Nat → Int32) (t : Int32) : ∀ d j, j ≤ lbn g t d j ∧ lbn g t d j ≤ j + d
  | 0, j => ⟨Nat.le_refl _, Nat.le_refl _⟩
  | d + 1, j => by
    rw [lbn]
    by_cases c : g j < t
    · rw [if_pos c]
      have := lbn_le g t d (j + 1)
      omega
    · rw [if_neg c]; omega
/-- a late point stands from x to y -/
def hlF (M : HM) (s c : Nat) (x y : Int32) : Prop := lbn (aI M (ltt M s)) x c 0 < c ∧ ¬ y < aI M (ltt M s) (lbn (aI M (ltt M s)) x c 0)
def sp_X4_hasLateFromTo : SP := fun as M k n Q => match as with
  | [.ref s, .int x, .int y] => ∃ c, SR M s ∧ mI M 136 s = nI c ∧ c ≤ 40 ∧ (hlF M s c x y → Q (some (.int 1)) M k n) ∧ (¬ hlF M s c x y → Q (some (.int 0)) M k n)
  | _ => False
def csX4_hasLateFromTo : CS := (cs_c 0 140 2 4 sp_X4_lateBelow (cs_c 0 134 2 4 sp_X4_hasLate (cs_c 0 137 2 4 sp_X4_lateTime cs_0)))
theorem csoX4_hasLateFromTo : ∀ op x na cl sp, csX4_hasLateFromTo op x = some (na, cl, sp) → CallOK 4 3 64 op x na cl sp := (cs_c_ok (caX4_hasLateFromTo_140 okX4_lateBelow) (cs_c_ok (caX4_hasLateFromTo_134 okX4_hasLate) (cs_c_ok (caX4_hasLateFromTo_137 okX4_lateTime) cs_0_ok)))
theorem xcX4_hasLateFromTo : (∀ (Q : QT) (G : GT) (pc : Nat) (L : LV) (a0 a1 : Value) (r : List Value) (M : HM) (k n : Nat), ex_i 4 4 4 false csX4_hasLateFromTo Q G (.invokevirtual 140) pc L (a1 :: a0 :: r) M k n = (e_rm r ∧ e_rc M 4 [a0, a1] ∧ sp_X4_lateBelow [a0, a1] M k n (fun v M' k' n' => G (pc + 3) L (v.toList ++ r) M' k' n'))) ∧ (∀ (Q : QT) (G : GT) (pc : Nat) (L : LV) (a0 a1 : Value) (r : List Value) (M : HM) (k n : Nat), ex_i 4 4 4 false csX4_hasLateFromTo Q G (.invokevirtual 134) pc L (a1 :: a0 :: r) M k n = (e_rm r ∧ e_rc M 4 [a0, a1] ∧ sp_X4_hasLate [a0, a1] M k n (fun v M' k' n' => G (pc + 3) L (v.toList ++ r) M' k' n'))) ∧ (∀ (Q : QT) (G : GT) (pc : Nat) (L : LV) (a0 a1 : Value) (r : List Value) (M : HM) (k n : Nat), ex_i 4 4 4 false csX4_hasLateFromTo Q G (.invokevirtual 137) pc L (a1 :: a0 :: r) M k n = (e_rm r ∧ e_rc M 4 [a0, a1] ∧ sp_X4_lateTime [a0, a1] M k n (fun v M' k' n' => G (pc + 3) L (v.toList ++ r) M' k' n'))) := ⟨(fun _ _ _ _ _ _ _ _ _ _ => xv0_2 rfl), (fun _ _ _ _ _ _ _ _ _ _ => xv0_2 rfl), (fun _ _ _ _ _ _ _ _ _ _ => xv0_2 rfl)⟩
theorem okX4_hasLateFromTo : OkX4_hasLateFromTo sp_X4_hasLateFromTo := by
  refine inX4_hasLateFromTo csoX4_hasLateFromTo ?_
  intro as M k n Q hsp
  unfold sp_X4_hasLateFromTo at hsp
  split at hsp
  rotate_left
  · exact hsp.elim
  rename_i s x y
  obtain ⟨c, hs, hc, h40, hq1, hq2⟩ := hsp
  have h0 := hs.1
  refine ⟨0, 0, Nat.zero_le _, Nat.zero_le _, Nat.le_of_ble_eq_true rfl, fun G hG => ?_⟩
  refine e_g2 hG [] 40 ?_
  simp only [e_wp_s, Option.getD_some, Option.isSome_some, Option.isSome_none, xis0, xis1, xis2, xis3, xis4, e_ks, lk_k, lk_c, List.lookup_nil, gt_c, vi_i, k1_n, k1_c, k2_n, k2_c, ar_n, ar_c, pk_n, pk_c, rm_0, rm_1, rm_2, rm_3, rm_4, rm_5, rc_9, rcs, fvs, rf_s, rf_n, isI_i, isL_l, isR_r, isR_n, isR_q, ct_i, ct_l, ct_r, ct_n, ct_q, tFs, tCs, tKs, tJs, tSs, e_nf, lgs, ↓reduceIte, true_and, and_true, false_and, and_false, or_true, true_or, false_or, or_false, Nat.reduceAdd, Nat.reduceEqDiff, Nat.reduceDiv, Nat.reduceLT, Nat.reduceLeDiff, Nat.zero_add, reduceCtorEq, Bool.false_eq_true, Option.toList_some, Option.toList_none, List.cons_append, List.nil_append, not_true_eq_false, not_false_eq_true, Nat.sub_zero, dsX4_hasLateFromTo, jsX4_hasLateFromTo, xcX4_hasLateFromTo, h0, hs, ↓sp_X4_lateBelow, ↓sp_X4_hasLate, ↓sp_X4_lateTime]
  refine ⟨c, hc, h40, ?_⟩
  have hle := (lbn_le (aI M (ltt M s)) x c 0).2
  unfold hlF at hq1 hq2
  generalize hj : lbn (aI M (ltt M s)) x c 0 = j at *
  have e1 : ¬ nI j < 0 := nI_pos (by omega)
  by_cases cj : j < c
  · have e2 : nI j < nI c := nI_lt cj (by omega)
    have e3 : nI j < 40 := nI_lt (b := 40) (by omega) (by decide)
    rw [ltF_at hc h40 cj]
    simp only [e1, e2, e3, hc, not_false_eq_true, and_self, if_true]
    by_cases cy : y < aI M (ltt M s) j
    · simp only [cy, if_true]
      simpa using hq2 (fun z => z.2 cy)
    · simp only [cy, if_false]
      simpa using hq1 ⟨cj, cy⟩
  · have e2 : ¬ nI j < nI c := nI_nlt (by omega) (by omega)
    simp only [e2, hc, false_and, and_false, if_false]
    simpa using hq2 (fun z => cj z.1)
def bkA (M : HM) (s i : Nat) : Nat := (aR M (bks M s) i).getD 0
/-- c blocks stand in the row -/
def BK (M : HM) (s c : Nat) : Prop := mI M 133 s = nI c ∧ c ≤ 300 ∧ ∀ i, i < c → aR M (bks M s) i = some (bkA M s i) ∧ mK M (bkA M s i) = 1
theorem bkF_at {M : HM} {s c j : Nat} (h : BK M s c) (hj : j < c) : bkF M s (nI j) = some (bkA M s j) := by
  have e1 : ¬ nI j < 0 := nI_pos (by have := h.2.1; omega)
  have e2 : nI j < nI c := nI_lt hj (by have := h.2.1; omega)
  have e3 : nI j < 300 := nI_lt (b := 300) (by have := h.2.1; omega) (by decide)
  have e4 : (nI j).toNatClampNeg = j := nI_clamp (by have := h.2.1; omega)
  unfold bkF
  rw [h.1, if_pos ⟨e1, e2, e3⟩, e4]
  exact (h.2.2 j hj).1
def sm (f : Nat → Int32) : Nat → Int32
  | 0 => 0
  | j + 1 => sm f j + f j
def sp_X4_mainPoints : SP := fun as M k n Q => match as with
  | [.ref s] => ∃ c, SR M s ∧ BK M s c ∧ Q (some (.int (sm (fun i => mI M 4 (bkA M s i)) c))) M k n
  | _ => False
def csX4_mainPoints : CS := (cs_c 0 71 2 4 sp_X4_blockAt cs_0)
theorem csoX4_mainPoints : ∀ op x na cl sp, csX4_mainPoints op x = some (na, cl, sp) → CallOK 4 1 21 op x na cl sp := (cs_c_ok (caX4_mainPoints_71 okX4_blockAt) cs_0_ok)
theorem xcX4_mainPoints : (∀ (Q : QT) (G : GT) (pc : Nat) (L : LV) (a0 a1 : Value) (r : List Value) (M : HM) (k n : Nat), ex_i 4 4 1 false csX4_mainPoints Q G (.invokevirtual 71) pc L (a1 :: a0 :: r) M k n = (e_rm r ∧ e_rc M 4 [a0, a1] ∧ sp_X4_blockAt [a0, a1] M k n (fun v M' k' n' => G (pc + 3) L (v.toList ++ r) M' k' n'))) := (fun _ _ _ _ _ _ _ _ _ _ => xv0_2 rfl)
theorem okX4_mainPoints : OkX4_mainPoints sp_X4_mainPoints := by
  refine inX4_mainPoints csoX4_mainPoints ?_
  intro as M k n Q hsp
  unfold sp_X4_mainPoints at hsp
  split at hsp
  rotate_left
  · exact hsp.elim
  rename_i s
  obtain ⟨c, hs, hB, hq⟩ := hsp
  have h0 := hs.1
  have hc := hB.1
  have h300 := hB.2.1
  refine ⟨0, 0, Nat.zero_le _, Nat.zero_le _, Nat.le_of_ble_eq_true rfl, fun G hG => ?_⟩
  have loop : ∀ d j : Nat, j + d = c → G 4 [(0, .ref s), (1, .int (sm (fun i => mI M 4 (bkA M s i)) j)), (2, .int (nI j))] [] M 0 0 := by
    intro d
    induction d with
    | zero =>
      intro j hj
      have e1 : ¬ nI j < nI c := nI_nlt (by omega) (by omega)
      refine e_g2 hG [(4, [0, 1, 2])] 40 ?_
      simp only [e_wp_s, Option.getD_some, Option.isSome_some, Option.isSome_none, xis0, xis1, xis2, xis3, xis4, e_ks, lk_k, lk_c, List.lookup_nil, gt_c, vi_i, k1_n, k1_c, k2_n, k2_c, ar_n, ar_c, pk_n, pk_c, rm_0, rm_1, rm_2, rm_3, rm_4, rm_5, rc_9, rcs, fvs, rf_s, rf_n, isI_i, isL_l, isR_r, isR_n, isR_q, ct_i, ct_l, ct_r, ct_n, ct_q, tFs, tCs, tKs, tJs, tSs, e_nf, lgs, ↓reduceIte, true_and, and_true, false_and, and_false, or_true, true_or, false_or, or_false, Nat.reduceAdd, Nat.reduceEqDiff, Nat.reduceDiv, Nat.reduceLT, Nat.reduceLeDiff, Nat.zero_add, reduceCtorEq, Bool.false_eq_true, Option.toList_some, Option.toList_none, List.cons_append, List.nil_append, not_true_eq_false, not_false_eq_true, Nat.sub_zero, dsX4_mainPoints, jsX4_mainPoints, xcX4_mainPoints, e1, h0, hc]
      rw [show j = c by omega]
      exact hq
    | succ d ih =>
      intro j hj
      have e1 : nI j < nI c := nI_lt (by omega) (by omega)
      have e2 := bkF_at hB (j := j) (by omega)
      have e3 := (hB.2.2 j (by omega)).2
      refine e_g2 hG [(4, [0, 1, 2])] 40 ?_
      simp only [e_wp_s, Option.getD_some, Option.isSome_some, Option.isSome_none, xis0, xis1, xis2, xis3, xis4, e_ks, lk_k, lk_c, List.lookup_nil, gt_c, vi_i, k1_n, k1_c, k2_n, k2_c, ar_n, ar_c, pk_n, pk_c, rm_0, rm_1, rm_2, rm_3, rm_4, rm_5, rc_9, rcs, fvs, rf_s, rf_n, isI_i, isL_l, isR_r, isR_n, isR_q, ct_i, ct_l, ct_r, ct_n, ct_q, tFs, tCs, tKs, tJs, tSs, e_nf, lgs, ↓reduceIte, true_and, and_true, false_and, and_false, or_true, true_or, false_or, or_false, Nat.reduceAdd, Nat.reduceEqDiff, Nat.reduceDiv, Nat.reduceLT, Nat.reduceLeDiff, Nat.zero_add, reduceCtorEq, Bool.false_eq_true, Option.toList_some, Option.toList_none, List.cons_append, List.nil_append, not_true_eq_false, not_false_eq_true, Nat.sub_zero, dsX4_mainPoints, jsX4_mainPoints, xcX4_mainPoints, e1, h0, hs, hc, e2, e3, ↓sp_X4_blockAt, nI_1]
      exact ih (j + 1) (by omega)
  refine e_g2 hG [(4, [0, 1, 2])] 40 ?_
  simp only [e_wp_s, Option.getD_some, Option.isSome_some, Option.isSome_none, xis0, xis1, xis2, xis3, xis4, e_ks, lk_k, lk_c, List.lookup_nil, gt_c, vi_i, k1_n, k1_c, k2_n, k2_c, ar_n, ar_c, pk_n, pk_c, rm_0, rm_1, rm_2, rm_3, rm_4, rm_5, rc_9, rcs, fvs, rf_s, rf_n, isI_i, isL_l, isR_r, isR_n, isR_q, ct_i, ct_l, ct_r, ct_n, ct_q, tFs, tCs, tKs, tJs, tSs, e_nf, lgs, ↓reduceIte, true_and, and_true, false_and, and_false, or_true, true_or, false_or, or_false, Nat.reduceAdd, Nat.reduceEqDiff, Nat.reduceDiv, Nat.reduceLT, Nat.reduceLeDiff, Nat.zero_add, reduceCtorEq, Bool.false_eq_true, Option.toList_some, Option.toList_none, List.cons_append, List.nil_append, not_true_eq_false, not_false_eq_true, Nat.sub_zero, dsX4_mainPoints, jsX4_mainPoints, xcX4_mainPoints]
  exact loop c 0 (by omega)
def sp_X4_blockBits : SP := fun as M k n Q => match as with
  | [.ref s] => ∃ c, SR M s ∧ BK M s c ∧ Q (some (.int (sm (fun i => mI M 3 (bkA M s i)) c))) M k n
  | _ => False
def csX4_blockBits : CS := (cs_c 0 71 2 4 sp_X4_blockAt cs_0)
theorem csoX4_blockBits : ∀ op x na cl sp, csX4_blockBits op x = some (na, cl, sp) → CallOK 4 1 21 op x na cl sp := (cs_c_ok (caX4_blockBits_71 okX4_blockAt) cs_0_ok)
theorem xcX4_blockBits : (∀ (Q : QT) (G : GT) (pc : Nat) (L : LV) (a0 a1 : Value) (r : List Value) (M : HM) (k n : Nat), ex_i 4 4 1 false csX4_blockBits Q G (.invokevirtual 71) pc L (a1 :: a0 :: r) M k n = (e_rm r ∧ e_rc M 4 [a0, a1] ∧ sp_X4_blockAt [a0, a1] M k n (fun v M' k' n' => G (pc + 3) L (v.toList ++ r) M' k' n'))) := (fun _ _ _ _ _ _ _ _ _ _ => xv0_2 rfl)
theorem okX4_blockBits : OkX4_blockBits sp_X4_blockBits := by
  refine inX4_blockBits csoX4_blockBits ?_
  intro as M k n Q hsp
  unfold sp_X4_blockBits at hsp
  split at hsp
  rotate_left
  · exact hsp.elim
  rename_i s
  obtain ⟨c, hs, hB, hq⟩ := hsp
  have h0 := hs.1
  have hc := hB.1
  have h300 := hB.2.1
  refine ⟨0, 0, Nat.zero_le _, Nat.zero_le _, Nat.le_of_ble_eq_true rfl, fun G hG => ?_⟩
  have loop : ∀ d j : Nat, j + d = c → G 4 [(0, .ref s), (1, .int (sm (fun i => mI M 3 (bkA M s i)) j)), (2, .int (nI j))] [] M 0 0 := by
    intro d
    induction d with
    | zero =>
      intro j hj
      have e1 : ¬ nI j < nI c := nI_nlt (by omega) (by omega)
      refine e_g2 hG [(4, [0, 1, 2])] 40 ?_
      simp only [e_wp_s, Option.getD_some, Option.isSome_some, Option.isSome_none, xis0, xis1, xis2, xis3, xis4, e_ks, lk_k, lk_c, List.lookup_nil, gt_c, vi_i, k1_n, k1_c, k2_n, k2_c, ar_n, ar_c, pk_n, pk_c, rm_0, rm_1, rm_2, rm_3, rm_4, rm_5, rc_9, rcs, fvs, rf_s, rf_n, isI_i, isL_l, isR_r, isR_n, isR_q, ct_i, ct_l, ct_r, ct_n, ct_q, tFs, tCs, tKs, tJs, tSs, e_nf, lgs, ↓reduceIte, true_and, and_true, false_and, and_false, or_true, true_or, false_or, or_false, Nat.reduceAdd, Nat.reduceEqDiff, Nat.reduceDiv, Nat.reduceLT, Nat.reduceLeDiff, Nat.zero_add, reduceCtorEq, Bool.false_eq_true, Option.toList_some, Option.toList_none, List.cons_append, List.nil_append, not_true_eq_false, not_false_eq_true, Nat.sub_zero, dsX4_blockBits, jsX4_blockBits, xcX4_blockBits, e1, h0, hc]
      rw [show j = c by omega]
      exact hq
    | succ d ih =>
      intro j hj
      have e1 : nI j < nI c := nI_lt (by omega) (by omega)
      have e2 := bkF_at hB (j := j) (by omega)
      have e3 := (hB.2.2 j (by omega)).2
      refine e_g2 hG [(4, [0, 1, 2])] 40 ?_
      simp only [e_wp_s, Option.getD_some, Option.isSome_some, Option.isSome_none, xis0, xis1, xis2, xis3, xis4, e_ks, lk_k, lk_c, List.lookup_nil, gt_c, vi_i, k1_n, k1_c, k2_n, k2_c, ar_n, ar_c, pk_n, pk_c, rm_0, rm_1, rm_2, rm_3, rm_4, rm_5, rc_9, rcs, fvs, rf_s, rf_n, isI_i, isL_l, isR_r, isR_n, isR_q, ct_i, ct_l, ct_r, ct_n, ct_q, tFs, tCs, tKs, tJs, tSs, e_nf, lgs, ↓reduceIte, true_and, and_true, false_and, and_false, or_true, true_or, false_or, or_false, Nat.reduceAdd, Nat.reduceEqDiff, Nat.reduceDiv, Nat.reduceLT, Nat.reduceLeDiff, Nat.zero_add, reduceCtorEq, Bool.false_eq_true, Option.toList_some, Option.toList_none, List.cons_append, List.nil_append, not_true_eq_false, not_false_eq_true, Nat.sub_zero, dsX4_blockBits, jsX4_blockBits, xcX4_blockBits, e1, h0, hs, hc, e2, e3, ↓sp_X4_blockAt, nI_1]
      exact ih (j + 1) (by omega)
  refine e_g2 hG [(4, [0, 1, 2])] 40 ?_
  simp only [e_wp_s, Option.getD_some, Option.isSome_some, Option.isSome_none, xis0, xis1, xis2, xis3, xis4, e_ks, lk_k, lk_c, List.lookup_nil, gt_c, vi_i, k1_n, k1_c, k2_n, k2_c, ar_n, ar_c, pk_n, pk_c, rm_0, rm_1, rm_2, rm_3, rm_4, rm_5, rc_9, rcs, fvs, rf_s, rf_n, isI_i, isL_l, isR_r, isR_n, isR_q, ct_i, ct_l, ct_r, ct_n, ct_q, tFs, tCs, tKs, tJs, tSs, e_nf, lgs, ↓reduceIte, true_and, and_true, false_and, and_false, or_true, true_or, false_or, or_false, Nat.reduceAdd, Nat.reduceEqDiff, Nat.reduceDiv, Nat.reduceLT, Nat.reduceLeDiff, Nat.zero_add, reduceCtorEq, Bool.false_eq_true, Option.toList_some, Option.toList_none, List.cons_append, List.nil_append, not_true_eq_false, not_false_eq_true, Nat.sub_zero, dsX4_blockBits, jsX4_blockBits, xcX4_blockBits]
  exact loop c 0 (by omega)
def sp_X4_tornBlocks : SP := fun as M k n Q => match as with
  | [.ref s] => ∃ c, SR M s ∧ BK M s c ∧ Q (some (.int (sm (fun i => if 0 < mI M 2 (bkA M s i) then 1 else 0) c))) M k n
  | _ => False
def csX4_tornBlocks : CS := (cs_c 0 71 2 4 sp_X4_blockAt (cs_c 0 81 1 0 sp_X0_isTorn cs_0))
theorem csoX4_tornBlocks : ∀ op x na cl sp, csX4_tornBlocks op x = some (na, cl, sp) → CallOK 4 1 21 op x na cl sp := (cs_c_ok (caX4_tornBlocks_71 okX4_blockAt) (cs_c_ok (caX4_tornBlocks_81 okX0_isTorn) cs_0_ok))
theorem xcX4_tornBlocks : (∀ (Q : QT) (G : GT) (pc : Nat) (L : LV) (a0 a1 : Value) (r : List Value) (M : HM) (k n : Nat), ex_i 4 4 1 false csX4_tornBlocks Q G (.invokevirtual 71) pc L (a1 :: a0 :: r) M k n = (e_rm r ∧ e_rc M 4 [a0, a1] ∧ sp_X4_blockAt [a0, a1] M k n (fun v M' k' n' => G (pc + 3) L (v.toList ++ r) M' k' n'))) ∧ (∀ (Q : QT) (G : GT) (pc : Nat) (L : LV) (a0 : Value) (r : List Value) (M : HM) (k n : Nat), ex_i 4 4 1 false csX4_tornBlocks Q G (.invokevirtual 81) pc L (a0 :: r) M k n = (e_rm r ∧ e_rc M 0 [a0] ∧ sp_X0_isTorn [a0] M k n (fun v M' k' n' => G (pc + 3) L (v.toList ++ r) M' k' n'))) := ⟨(fun _ _ _ _ _ _ _ _ _ _ => xv0_2 rfl), (fun _ _ _ _ _ _ _ _ _ => xv0_1 rfl)⟩
theorem okX4_tornBlocks : OkX4_tornBlocks sp_X4_tornBlocks := by
  refine inX4_tornBlocks csoX4_tornBlocks ?_
  intro as M k n Q hsp
  unfold sp_X4_tornBlocks at hsp
  split at hsp
  rotate_left
  · exact hsp.elim
  rename_i s
  obtain ⟨c, hs, hB, hq⟩ := hsp
  have h0 := hs.1
  have hc := hB.1
  have h300 := hB.2.1
  refine ⟨0, 0, Nat.zero_le _, Nat.zero_le _, Nat.le_of_ble_eq_true rfl, fun G hG => ?_⟩
  have loop : ∀ d j : Nat, j + d = c → G 4 [(0, .ref s), (1, .int (sm (fun i => if 0 < mI M 2 (bkA M s i) then 1 else 0) j)), (2, .int (nI j))] [] M 0 0 := by
    intro d
    induction d with
    | zero =>
      intro j hj
      have e1 : ¬ nI j < nI c := nI_nlt (by omega) (by omega)
      refine e_g2 hG [(4, [0, 1, 2])] 40 ?_
      simp only [e_wp_s, Option.getD_some, Option.isSome_some, Option.isSome_none, xis0, xis1, xis2, xis3, xis4, e_ks, lk_k, lk_c, List.lookup_nil, gt_c, vi_i, k1_n, k1_c, k2_n, k2_c, ar_n, ar_c, pk_n, pk_c, rm_0, rm_1, rm_2, rm_3, rm_4, rm_5, rc_9, rcs, fvs, rf_s, rf_n, isI_i, isL_l, isR_r, isR_n, isR_q, ct_i, ct_l, ct_r, ct_n, ct_q, tFs, tCs, tKs, tJs, tSs, e_nf, lgs, ↓reduceIte, true_and, and_true, false_and, and_false, or_true, true_or, false_or, or_false, Nat.reduceAdd, Nat.reduceEqDiff, Nat.reduceDiv, Nat.reduceLT, Nat.reduceLeDiff, Nat.zero_add, reduceCtorEq, Bool.false_eq_true, Option.toList_some, Option.toList_none, List.cons_append, List.nil_append, not_true_eq_false, not_false_eq_true, Nat.sub_zero, dsX4_tornBlocks, jsX4_tornBlocks, xcX4_tornBlocks, e1, h0, hc]
      rw [show j = c by omega]
      exact hq
    | succ d ih =>
      intro j hj
      have e1 : nI j < nI c := nI_lt (by omega) (by omega)
      have e2 := bkF_at hB (j := j) (by omega)
      have e3 := (hB.2.2 j (by omega)).2
      have h := ih (j + 1) (by omega)
      rw [sm] at h
      refine e_g2 hG [(4, [0, 1, 2])] 40 ?_
      simp only [e_wp_s, Option.getD_some, Option.isSome_some, Option.isSome_none, xis0, xis1, xis2, xis3, xis4, e_ks, lk_k, lk_c, List.lookup_nil, gt_c, vi_i, k1_n, k1_c, k2_n, k2_c, ar_n, ar_c, pk_n, pk_c, rm_0, rm_1, rm_2, rm_3, rm_4, rm_5, rc_9, rcs, fvs, rf_s, rf_n, isI_i, isL_l, isR_r, isR_n, isR_q, ct_i, ct_l, ct_r, ct_n, ct_q, tFs, tCs, tKs, tJs, tSs, e_nf, lgs, ↓reduceIte, true_and, and_true, false_and, and_false, or_true, true_or, false_or, or_false, Nat.reduceAdd, Nat.reduceEqDiff, Nat.reduceDiv, Nat.reduceLT, Nat.reduceLeDiff, Nat.zero_add, reduceCtorEq, Bool.false_eq_true, Option.toList_some, Option.toList_none, List.cons_append, List.nil_append, not_true_eq_false, not_false_eq_true, Nat.sub_zero, dsX4_tornBlocks, jsX4_tornBlocks, xcX4_tornBlocks, e1, h0, hs, hc, e2, e3, ↓sp_X4_blockAt, ↓sp_X0_isTorn, nI_1]
      by_cases c1 : 0 < mI M 2 (bkA M s j)
      · simp only [c1, if_true] at h ⊢
        simpa using h
      · simp only [c1, if_false] at h ⊢
        simpa using h
  refine e_g2 hG [(4, [0, 1, 2])] 40 ?_
  simp only [e_wp_s, Option.getD_some, Option.isSome_some, Option.isSome_none, xis0, xis1, xis2, xis3, xis4, e_ks, lk_k, lk_c, List.lookup_nil, gt_c, vi_i, k1_n, k1_c, k2_n, k2_c, ar_n, ar_c, pk_n, pk_c, rm_0, rm_1, rm_2, rm_3, rm_4, rm_5, rc_9, rcs, fvs, rf_s, rf_n, isI_i, isL_l, isR_r, isR_n, isR_q, ct_i, ct_l, ct_r, ct_n, ct_q, tFs, tCs, tKs, tJs, tSs, e_nf, lgs, ↓reduceIte, true_and, and_true, false_and, and_false, or_true, true_or, false_or, or_false, Nat.reduceAdd, Nat.reduceEqDiff, Nat.reduceDiv, Nat.reduceLT, Nat.reduceLeDiff, Nat.zero_add, reduceCtorEq, Bool.false_eq_true, Option.toList_some, Option.toList_none, List.cons_append, List.nil_append, not_true_eq_false, not_false_eq_true, Nat.sub_zero, dsX4_tornBlocks, jsX4_tornBlocks, xcX4_tornBlocks]
  exact loop c 0 (by omega)
