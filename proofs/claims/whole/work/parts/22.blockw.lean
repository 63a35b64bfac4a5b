def cl (x : Int32) : Nat := x.toNatClampNeg
/-- an emptied block -/
def clF (M : HM) (b : Nat) : HM := match mR M 1 b with
  | none => M
  | some z => uI M z (fun i => if i < 226 then 0 else aI M z i)
def clM (M : HM) (b : Nat) : HM := sI (sI (sI (sL (sI (sI (sI (clF (uI M (bt M b) (fun i => if i < 226 then 0 else aI M (bt M b) i)) b) 2 b 0) 3 b 0) 4 b 0) 9 b 0) 10 b 0) 12 b 0) 13 b 0
def csX0_write : CS := cs_0
theorem csoX0_write : ∀ op x na cl sp, csX0_write op x = some (na, cl, sp) → CallOK 0 0 0 op x na cl sp := cs_0_ok
def sp_X0_write0 : SP := fun as M k n Q => match as with
  | [.ref b, .long x, .int c] => WB M b ∧ mI M 3 b = nI (bp M b) ∧ c = nI (cl c) ∧ cl c ≤ 64 ∧ bp M b + cl c ≤ 1808 ∧ Q none (wrM M b (nb x (cl c))) k n
  | _ => False
theorem loop_X0_write {Q : QT} {G : GT} {b : Nat} {x : Int64} (hG : e_cl 0 6 0 false cX0_write csX0_write Q G) : ∀ (c : Nat) (M : HM), WB M b → mI M 3 b = nI (bp M b) → c ≤ 64 → bp M b + c ≤ 1808 → Q none (wrM M b (nb x c)) 0 0 → G 5 [(0, .ref b), (1, .long x), (4, .int (nI c - 1))] [] M 0 0 := by
  intro c
  induction c with
  | zero =>
    intro M hw hp hc hl hq
    have hz : (nI 0 - 1 : Int32) < 0 := by decide
    refine e_g2 hG [(5, [0, 1, 4])] 60 ?_
    simp only [e_wp_s, Option.getD_some, Option.isSome_some, Option.isSome_none, xis0, xis1, xis2, xis3, xis4, e_ks, lk_k, lk_c, List.lookup_nil, gt_c, vi_i, k1_n, k1_c, k2_n, k2_c, ar_n, ar_c, pk_n, pk_c, rm_0, rm_1, rm_2, rm_3, rm_4, rm_5, rc_9, rcs, fvs, rf_s, rf_n, isI_i, isL_l, isR_r, isR_n, isR_q, ct_i, ct_l, ct_r, ct_n, ct_q, tFs, tCs, tKs, tJs, tSs, e_nf, lgs, ↓reduceIte, true_and, and_true, false_and, and_false, or_true, true_or, false_or, or_false, Nat.reduceAdd, Nat.reduceEqDiff, Nat.reduceDiv, Nat.reduceLT, Nat.reduceLeDiff, Nat.zero_add, reduceCtorEq, Bool.false_eq_true, Option.toList_some, Option.toList_none, List.cons_append, List.nil_append, not_true_eq_false, not_false_eq_true, Nat.sub_zero, dsX0_write, jsX0_write, hz]
    have : wrM M b (nb x 0) = M := by
      unfold wrM nb wbl
      refine hm_ext rfl rfl ?_ rfl rfl ?_ rfl rfl
      · funext f a
        simp only [hmI, hmU, List.length_nil, Nat.add_zero]
        by_cases e : f = 3 ∧ a = b
        · obtain ⟨rfl, rfl⟩ := e; simp [hp]
        · simp [e]
      · funext a
        simp only [haI, hmU]
        by_cases e : a = bt M b <;> simp [e]
    rw [this] at hq
    exact hq
  | succ c ih =>
    intro M hw hp hc hl hq
    obtain ⟨hb, hy, hky, hny, -⟩ := id hw
    have e1 : nI (c + 1) - 1 = nI c := nI_pred c
    have e2 : ¬ nI c < 0 := nI_pos (by omega)
    have e3 : nI (bp M b) >>> ((3 : Int32) &&& 31) = nI (bp M b / 8) := shr3 (by omega)
    have e4 : ¬ nI (bp M b / 8) < 0 := nI_pos (by omega)
    have e5 : nI (bp M b / 8) < 226 := nI_lt (b := 226) (by omega) (by decide)
    have e6 : vp_in (nI (bp M b / 8)) 226 := vp_in_nI (by omega) (by decide)
    have e7 : (nI (bp M b / 8)).toNatClampNeg = bp M b / 8 := nI_clamp (by omega)
    have e8 : nI (bp M b) &&& 7 = nI (bp M b % 8) := and7 (by omega)
    have e9 := bit_test (x := x) (c := c) (by omega)
    rw [e1]
    refine e_g2 hG [(5, [0, 1, 4])] 60 ?_
    simp only [e_wp_s, Option.getD_some, Option.isSome_some, Option.isSome_none, xis0, xis1, xis2, xis3, xis4, e_ks, lk_k, lk_c, List.lookup_nil, gt_c, vi_i, k1_n, k1_c, k2_n, k2_c, ar_n, ar_c, pk_n, pk_c, rm_0, rm_1, rm_2, rm_3, rm_4, rm_5, rc_9, rcs, fvs, rf_s, rf_n, isI_i, isL_l, isR_r, isR_n, isR_q, ct_i, ct_l, ct_r, ct_n, ct_q, tFs, tCs, tKs, tJs, tSs, e_nf, lgs, ↓reduceIte, true_and, and_true, false_and, and_false, or_true, true_or, false_or, or_false, Nat.reduceAdd, Nat.reduceEqDiff, Nat.reduceDiv, Nat.reduceLT, Nat.reduceLeDiff, Nat.zero_add, reduceCtorEq, Bool.false_eq_true, Option.toList_some, Option.toList_none, List.cons_append, List.nil_append, not_true_eq_false, not_false_eq_true, Nat.sub_zero, dsX0_write, jsX0_write, hb, hy, hky, hny, hp, e2, e3, e4, e5, e6, e7, e8, of_226, hmK, hmN, hmI, hmL, hmR, haI, haL, haR]
    have step : ∀ M1 : HM, WB M1 b → bp M1 b = bp M b + 1 → mI M1 3 b = nI (bp M1 b) → wrM M1 b (nb x c) = wrM M b (nb x (c + 1)) → G 5 [(0, .ref b), (1, .long x), (4, .int (nI c + (-1)))] [] M1 0 0 := by
      intro M1 g1 g2 g3 g4
      rw [nI_m1]
      exact ih M1 g1 g3 (by omega) (by omega) (by rw [g4]; exact hq)
    have fin : ∀ M1 : HM, M1 = wrM M b [tb x c] → G 5 [(0, .ref b), (1, .long x), (4, .int (nI c + (-1)))] [] M1 0 0 := by
      intro M1 e
      have hb1 : bp M b + [tb x c].length < 2 ^ 31 := by simp; omega
      subst e
      exact step _ hw (wr_bp hb1) (wr_I hb1) (wr_app hb1)
    split
    · rename_i h
      refine fin _ ?_
      rw [e9.mp h]
      unfold wrM wbl wbl wb1
      refine hm_ext rfl rfl ?_ rfl rfl ?_ rfl rfl
      · funext f a
        simp [hmI, hmU, nI_1]
      · funext a
        by_cases e : a = bt M b <;> simp [haI, hmU, e]
    · rename_i h
      refine fin _ ?_
      rw [ts_nf (fun z => h (e9.mpr z))]
      unfold wrM wbl wbl wb1 bm
      refine hm_ext rfl rfl ?_ rfl rfl ?_ rfl rfl
      · funext f a
        simp [hmI, hmU, nI_1]
      · funext a i
        by_cases e : a = bt M b
        · by_cases e2 : i = bp M b / 8 <;> simp [haI, hmU, e, e2]
        · simp [haI, hmU, e]
theorem okX0_write0 : OkX0_write sp_X0_write0 := by
  refine inX0_write csoX0_write ?_
  intro as M k n Q hsp
  unfold sp_X0_write0 at hsp
  split at hsp
  rotate_left
  · exact hsp.elim
  rename_i b x c
  obtain ⟨hw, hp, hc, hc2, hl, hq⟩ := hsp
  refine ⟨0, 0, Nat.zero_le _, Nat.zero_le _, Nat.le_of_ble_eq_true rfl, fun G hG => ?_⟩
  refine e_g2 hG [(5, [0, 1, 4])] 60 ?_
  simp only [e_wp_s, Option.getD_some, Option.isSome_some, Option.isSome_none, xis0, xis1, xis2, xis3, xis4, e_ks, lk_k, lk_c, List.lookup_nil, gt_c, vi_i, k1_n, k1_c, k2_n, k2_c, ar_n, ar_c, pk_n, pk_c, rm_0, rm_1, rm_2, rm_3, rm_4, rm_5, rc_9, rcs, fvs, rf_s, rf_n, isI_i, isL_l, isR_r, isR_n, isR_q, ct_i, ct_l, ct_r, ct_n, ct_q, tFs, tCs, tKs, tJs, tSs, e_nf, lgs, ↓reduceIte, true_and, and_true, false_and, and_false, or_true, true_or, false_or, or_false, Nat.reduceAdd, Nat.reduceEqDiff, Nat.reduceDiv, Nat.reduceLT, Nat.reduceLeDiff, Nat.zero_add, reduceCtorEq, Bool.false_eq_true, Option.toList_some, Option.toList_none, List.cons_append, List.nil_append, not_true_eq_false, not_false_eq_true, Nat.sub_zero, dsX0_write, jsX0_write, hw]
  rw [hc]
  exact loop_X0_write hG _ M hw hp hc2 hl hq
def csJ7_fill_53178 : CS := cs_0
theorem csoJ7_fill_53178 : ∀ op x na cl sp, csJ7_fill_53178 op x = some (na, cl, sp) → CallOK 12 0 0 op x na cl sp := cs_0_ok
def sp_J7_fill_53178 : SP := fun as M k n Q => match as with
  | [.ref a, .int x] => mK M a = 9 ∧ mN M a < 2 ^ 31 ∧ Q none (uI M a (fun i => if i < mN M a then x else aI M a i)) k n
  | _ => False
theorem loop_J7_fill {Q : QT} {G : GT} {a : Nat} {x : Int32} (hG : e_cl 12 4 0 false cJ7_fill_53178 csJ7_fill_53178 Q G) {M0 : HM} (hk : mK M0 a = 9) (hn : mN M0 a < 2 ^ 31) (hq : Q none (uI M0 a (fun i => if i < mN M0 a then x else aI M0 a i)) 0 0) : ∀ (d j : Nat), j + d = mN M0 a → G 5 [(0, .ref a), (1, .int x), (2, .int (nI j)), (3, .int (nI (mN M0 a)))] [] (uI M0 a (fun i => if i < j then x else aI M0 a i)) 0 0 := by
  intro d
  induction d with
  | zero =>
    intro j hj
    have e1 : ¬ nI j < nI (mN M0 a) := nI_nlt (by omega) (by omega)
    refine e_g2 hG [(5, [0, 1, 2, 3])] 40 ?_
    simp only [e_wp_s, Option.getD_some, Option.isSome_some, Option.isSome_none, xis0, xis1, xis2, xis3, xis4, e_ks, lk_k, lk_c, List.lookup_nil, gt_c, vi_i, k1_n, k1_c, k2_n, k2_c, ar_n, ar_c, pk_n, pk_c, rm_0, rm_1, rm_2, rm_3, rm_4, rm_5, rc_9, rcs, fvs, rf_s, rf_n, isI_i, isL_l, isR_r, isR_n, isR_q, ct_i, ct_l, ct_r, ct_n, ct_q, tFs, tCs, tKs, tJs, tSs, e_nf, lgs, ↓reduceIte, true_and, and_true, false_and, and_false, or_true, true_or, false_or, or_false, Nat.reduceAdd, Nat.reduceEqDiff, Nat.reduceDiv, Nat.reduceLT, Nat.reduceLeDiff, Nat.zero_add, reduceCtorEq, Bool.false_eq_true, Option.toList_some, Option.toList_none, List.cons_append, List.nil_append, not_true_eq_false, not_false_eq_true, Nat.sub_zero, dsJ7_fill_53178, jsJ7_fill_53178, e1, hmK, hmN, hmI, hmL, hmR, haI, haL, haR, hmU]
    rw [show j = mN M0 a by omega]
    exact hq
  | succ d ih =>
    intro j hj
    have e1 : nI j < nI (mN M0 a) := nI_lt (by omega) (by omega)
    have e2 : vp_in (nI j) (mN M0 a) := vp_in_nI (by omega) (by omega)
    have e3 : (nI j).toNatClampNeg = j := nI_clamp (by omega)
    refine e_g2 hG [(5, [0, 1, 2, 3])] 40 ?_
    simp only [e_wp_s, Option.getD_some, Option.isSome_some, Option.isSome_none, xis0, xis1, xis2, xis3, xis4, e_ks, lk_k, lk_c, List.lookup_nil, gt_c, vi_i, k1_n, k1_c, k2_n, k2_c, ar_n, ar_c, pk_n, pk_c, rm_0, rm_1, rm_2, rm_3, rm_4, rm_5, rc_9, rcs, fvs, rf_s, rf_n, isI_i, isL_l, isR_r, isR_n, isR_q, ct_i, ct_l, ct_r, ct_n, ct_q, tFs, tCs, tKs, tJs, tSs, e_nf, lgs, ↓reduceIte, true_and, and_true, false_and, and_false, or_true, true_or, false_or, or_false, Nat.reduceAdd, Nat.reduceEqDiff, Nat.reduceDiv, Nat.reduceLT, Nat.reduceLeDiff, Nat.zero_add, reduceCtorEq, Bool.false_eq_true, Option.toList_some, Option.toList_none, List.cons_append, List.nil_append, not_true_eq_false, not_false_eq_true, Nat.sub_zero, dsJ7_fill_53178, jsJ7_fill_53178, e1, e2, e3, hk, hmK, hmN, hmI, hmL, hmR, haI, haL, haR, hmU, nI_1]
    have : tI (uI M0 a (fun i => if i < j then x else aI M0 a i)) a j x = uI M0 a (fun i => if i < j + 1 then x else aI M0 a i) := by
      refine hm_ext rfl rfl rfl rfl rfl ?_ rfl rfl
      funext c i
      by_cases e : c = a
      · subst e
        by_cases e2 : i = j
        · simp [haI, hmU, e2]
        · by_cases e4 : i < j
          · simp [haI, hmU, e2, e4, show i < j + 1 by omega]
          · simp [haI, hmU, e2, e4, show ¬ i < j + 1 by omega]
      · simp [haI, hmU, e]
    rw [this]
    exact ih (j + 1) (by omega)
theorem okJ7_fill_53178 : OkJ7_fill_53178 sp_J7_fill_53178 := by
  refine inJ7_fill_53178 csoJ7_fill_53178 ?_
  intro as M k n Q hsp
  unfold sp_J7_fill_53178 at hsp
  split at hsp
  rotate_left
  · exact hsp.elim
  rename_i a x
  obtain ⟨hk, hn, hq⟩ := hsp
  refine ⟨0, 0, Nat.zero_le _, Nat.zero_le _, Nat.le_of_ble_eq_true rfl, fun G hG => ?_⟩
  refine e_g2 hG [(5, [0, 1, 2, 3])] 40 ?_
  simp only [e_wp_s, Option.getD_some, Option.isSome_some, Option.isSome_none, xis0, xis1, xis2, xis3, xis4, e_ks, lk_k, lk_c, List.lookup_nil, gt_c, vi_i, k1_n, k1_c, k2_n, k2_c, ar_n, ar_c, pk_n, pk_c, rm_0, rm_1, rm_2, rm_3, rm_4, rm_5, rc_9, rcs, fvs, rf_s, rf_n, isI_i, isL_l, isR_r, isR_n, isR_q, ct_i, ct_l, ct_r, ct_n, ct_q, tFs, tCs, tKs, tJs, tSs, e_nf, lgs, ↓reduceIte, true_and, and_true, false_and, and_false, or_true, true_or, false_or, or_false, Nat.reduceAdd, Nat.reduceEqDiff, Nat.reduceDiv, Nat.reduceLT, Nat.reduceLeDiff, Nat.zero_add, reduceCtorEq, Bool.false_eq_true, Option.toList_some, Option.toList_none, List.cons_append, List.nil_append, not_true_eq_false, not_false_eq_true, Nat.sub_zero, dsJ7_fill_53178, jsJ7_fill_53178, hk]
  have h := loop_J7_fill hG hk hn hq (mN M a) 0 (by omega)
  have : uI M a (fun i => if i < 0 then x else aI M a i) = M := by
    refine hm_ext rfl rfl rfl rfl rfl ?_ rfl rfl
    funext c
    by_cases e : c = a <;> simp [hmU, e]
  rw [this] at h
  exact h
def csX0_formOf : CS := cs_0
theorem csoX0_formOf : ∀ op x na cl sp, csX0_formOf op x = some (na, cl, sp) → CallOK 0 0 0 op x na cl sp := cs_0_ok
def fof (x : Int32) : Nat := if x = 0 then 0 else if ¬ x < -63 ∧ ¬ 64 < x then 1 else if ¬ x < -255 ∧ ¬ 256 < x then 2 else if ¬ x < -2047 ∧ ¬ 2048 < x then 3 else 4
def sp_X0_formOf : SP := fun as M k n Q => match as with
  | [.int x] => Q (some (.int (nI (fof x)))) M k n
  | _ => False
theorem okX0_formOf : OkX0_formOf sp_X0_formOf := by
  refine inX0_formOf csoX0_formOf ?_
  intro as M k n Q hsp
  unfold sp_X0_formOf at hsp
  split at hsp
  rotate_left
  · exact hsp.elim
  rename_i x
  refine ⟨0, 0, Nat.zero_le _, Nat.zero_le _, Nat.le_of_ble_eq_true rfl, fun G hG => ?_⟩
  have st : ∀ j : Nat, j < 4 → (x < -(e_sa 1 j) ∨ e_sa 1 j + 1 < x → G 8 [(0, .int x), (1, .int (nI (j + 1)))] [] M 0 0) → (¬ x < -(e_sa 1 j) ∧ ¬ e_sa 1 j + 1 < x → Q (some (.int (nI j))) M k n) → G 8 [(0, .int x), (1, .int (nI j))] [] M 0 0 := by
    intro j hj h1 h2
    have e1 : nI j < 4 := nI_lt (b := 4) hj (by decide)
    have e2 : vp_in (nI j) 5 := vp_in_nI (by omega) (by decide)
    have e3 : (nI j).toNatClampNeg = j := nI_clamp (by omega)
    refine e_g2 hG [(8, [0, 1])] 40 ?_
    simp only [e_wp_s, Option.getD_some, Option.isSome_some, Option.isSome_none, xis0, xis1, xis2, xis3, xis4, e_ks, lk_k, lk_c, List.lookup_nil, gt_c, vi_i, k1_n, k1_c, k2_n, k2_c, ar_n, ar_c, pk_n, pk_c, rm_0, rm_1, rm_2, rm_3, rm_4, rm_5, rc_9, rcs, fvs, rf_s, rf_n, isI_i, isL_l, isR_r, isR_n, isR_q, ct_i, ct_l, ct_r, ct_n, ct_q, tFs, tCs, tKs, tJs, tSs, e_nf, lgs, ↓reduceIte, true_and, and_true, false_and, and_false, or_true, true_or, false_or, or_false, Nat.reduceAdd, Nat.reduceEqDiff, Nat.reduceDiv, Nat.reduceLT, Nat.reduceLeDiff, Nat.zero_add, reduceCtorEq, Bool.false_eq_true, Option.toList_some, Option.toList_none, List.cons_append, List.nil_append, not_true_eq_false, not_false_eq_true, Nat.sub_zero, dsX0_formOf, jsX0_formOf, e1, e2, e3, nI_1]
    intro t a1 a2 a3
    simp only [a1, a2, a3, e2, true_and, or_true]
    by_cases c1 : x < -(e_sa 1 j)
    · simp only [c1, if_true]
      exact h1 (Or.inl c1)
    · simp only [c1, if_false]
      intro t b1 b2 b3
      simp only [b1, b2, b3, e2, true_and, or_true]
      by_cases c2 : e_sa 1 j + 1 < x
      · simp only [c2, if_true]
        exact h1 (Or.inr c2)
      · simp only [c2, if_false]
        exact h2 ⟨c1, c2⟩
  have h4 : (fof x = 4) → G 8 [(0, .int x), (1, .int (nI 4))] [] M 0 0 := by
    intro h
    rw [h] at hsp
    have e1 : ¬ nI 4 < 4 := by decide
    refine e_g2 hG [(8, [0, 1])] 40 ?_
    simp only [e_wp_s, Option.getD_some, Option.isSome_some, Option.isSome_none, xis0, xis1, xis2, xis3, xis4, e_ks, lk_k, lk_c, List.lookup_nil, gt_c, vi_i, k1_n, k1_c, k2_n, k2_c, ar_n, ar_c, pk_n, pk_c, rm_0, rm_1, rm_2, rm_3, rm_4, rm_5, rc_9, rcs, fvs, rf_s, rf_n, isI_i, isL_l, isR_r, isR_n, isR_q, ct_i, ct_l, ct_r, ct_n, ct_q, tFs, tCs, tKs, tJs, tSs, e_nf, lgs, ↓reduceIte, true_and, and_true, false_and, and_false, or_true, true_or, false_or, or_false, Nat.reduceAdd, Nat.reduceEqDiff, Nat.reduceDiv, Nat.reduceLT, Nat.reduceLeDiff, Nat.zero_add, reduceCtorEq, Bool.false_eq_true, Option.toList_some, Option.toList_none, List.cons_append, List.nil_append, not_true_eq_false, not_false_eq_true, Nat.sub_zero, dsX0_formOf, jsX0_formOf, e1]
    exact hsp
  refine e_g2 hG [(8, [0, 1])] 40 ?_
  simp only [e_wp_s, Option.getD_some, Option.isSome_some, Option.isSome_none, xis0, xis1, xis2, xis3, xis4, e_ks, lk_k, lk_c, List.lookup_nil, gt_c, vi_i, k1_n, k1_c, k2_n, k2_c, ar_n, ar_c, pk_n, pk_c, rm_0, rm_1, rm_2, rm_3, rm_4, rm_5, rc_9, rcs, fvs, rf_s, rf_n, isI_i, isL_l, isR_r, isR_n, isR_q, ct_i, ct_l, ct_r, ct_n, ct_q, tFs, tCs, tKs, tJs, tSs, e_nf, lgs, ↓reduceIte, true_and, and_true, false_and, and_false, or_true, true_or, false_or, or_false, Nat.reduceAdd, Nat.reduceEqDiff, Nat.reduceDiv, Nat.reduceLT, Nat.reduceLeDiff, Nat.zero_add, reduceCtorEq, Bool.false_eq_true, Option.toList_some, Option.toList_none, List.cons_append, List.nil_append, not_true_eq_false, not_false_eq_true, Nat.sub_zero, dsX0_formOf, jsX0_formOf]
  by_cases c0 : x = 0
  · simp only [c0, if_true]
    rw [fof, if_pos c0] at hsp
    exact hsp
  simp only [c0, if_false]
  refine st 1 (by decide) (fun q1 => st 2 (by decide) (fun q2 => st 3 (by decide) (fun q3 => h4 ?_) (fun q3 => ?_)) (fun q2 => ?_)) (fun q1 => ?_)
  · have r1 : ¬ (¬ x < -63 ∧ ¬ 64 < x) := fun z => q1.elim z.1 z.2
    have r2 : ¬ (¬ x < -255 ∧ ¬ 256 < x) := fun z => q2.elim z.1 z.2
    have r3 : ¬ (¬ x < -2047 ∧ ¬ 2048 < x) := fun z => q3.elim z.1 z.2
    simp only [fof, c0, r1, r2, r3, if_false]
  · have r1 : ¬ (¬ x < -63 ∧ ¬ 64 < x) := fun z => q1.elim z.1 z.2
    have r2 : ¬ (¬ x < -255 ∧ ¬ 256 < x) := fun z => q2.elim z.1 z.2
    have r3 : (¬ x < -2047 ∧ ¬ 2048 < x) := q3
    rw [fof, if_neg c0, if_neg r1, if_neg r2, if_pos r3] at hsp
    exact hsp
  · have r1 : ¬ (¬ x < -63 ∧ ¬ 64 < x) := fun z => q1.elim z.1 z.2
    have r2 : (¬ x < -255 ∧ ¬ 256 < x) := q2
    rw [fof, if_neg c0, if_neg r1, if_pos r2] at hsp
    exact hsp
  · have r1 : (¬ x < -63 ∧ ¬ 64 < x) := q1
    rw [fof, if_neg c0, if_pos r1] at hsp
    exact hsp
def sp_X0_clear : SP := fun as M k n Q => match as with
  | [.ref b] => WB M b ∧ Q none (clM M b) k n
  | _ => False
def csX0_clear : CS := (cs_c 2 56 2 9 sp_J7_fill_53178 cs_0)
theorem csoX0_clear : ∀ op x na cl sp, csX0_clear op x = some (na, cl, sp) → CallOK 0 1 23 op x na cl sp := (cs_c_ok (caX0_clear_56 okJ7_fill_53178) cs_0_ok)
theorem xcX0_clear : (∀ (Q : QT) (G : GT) (pc : Nat) (L : LV) (a0 a1 : Value) (r : List Value) (M : HM) (k n : Nat), ex_i 0 1 0 false csX0_clear Q G (.invokestatic 56) pc L (a1 :: a0 :: r) M k n = (e_rm r ∧ e_rc M 9 [a0, a1] ∧ sp_J7_fill_53178 [a0, a1] M k n (fun v M' k' n' => G (pc + 3) L (v.toList ++ r) M' k' n'))) := (fun _ _ _ _ _ _ _ _ _ _ => xv2_2 rfl)
theorem okX0_clear : OkX0_clear sp_X0_clear := by
  refine inX0_clear csoX0_clear ?_
  intro as M k n Q hsp
  unfold sp_X0_clear at hsp
  split at hsp
  rotate_left
  · exact hsp.elim
  rename_i b
  obtain ⟨hw, hq⟩ := hsp
  obtain ⟨hb, hy, hky, hny, hz⟩ := id hw
  refine ⟨0, 0, Nat.zero_le _, Nat.zero_le _, Nat.le_of_ble_eq_true rfl, fun G hG => ?_⟩
  have h31 : 226 < 2 ^ 31 := by decide
  refine e_g2 hG [] 60 ?_
  cases hf : mR M 1 b with
  | none =>
    simp only [e_wp_s, Option.getD_some, Option.isSome_some, Option.isSome_none, xis0, xis1, xis2, xis3, xis4, e_ks, lk_k, lk_c, List.lookup_nil, gt_c, vi_i, k1_n, k1_c, k2_n, k2_c, ar_n, ar_c, pk_n, pk_c, rm_0, rm_1, rm_2, rm_3, rm_4, rm_5, rc_9, rcs, fvs, rf_s, rf_n, isI_i, isL_l, isR_r, isR_n, isR_q, ct_i, ct_l, ct_r, ct_n, ct_q, tFs, tCs, tKs, tJs, tSs, e_nf, lgs, ↓reduceIte, true_and, and_true, false_and, and_false, or_true, true_or, false_or, or_false, Nat.reduceAdd, Nat.reduceEqDiff, Nat.reduceDiv, Nat.reduceLT, Nat.reduceLeDiff, Nat.zero_add, reduceCtorEq, Bool.false_eq_true, Option.toList_some, Option.toList_none, List.cons_append, List.nil_append, not_true_eq_false, not_false_eq_true, Nat.sub_zero, dsX0_clear, jsX0_clear, xcX0_clear, hb, hy, hky, hny, hf, ↓sp_J7_fill_53178, hmK, hmN, hmI, hmL, hmR, haI, haL, haR, hmU, h31]
    unfold clM clF at hq
    simp only [hmU, hf] at hq
    exact hq
  | some z =>
    obtain ⟨h1, h2, h3⟩ := hz z hf
    simp only [e_wp_s, Option.getD_some, Option.isSome_some, Option.isSome_none, xis0, xis1, xis2, xis3, xis4, e_ks, lk_k, lk_c, List.lookup_nil, gt_c, vi_i, k1_n, k1_c, k2_n, k2_c, ar_n, ar_c, pk_n, pk_c, rm_0, rm_1, rm_2, rm_3, rm_4, rm_5, rc_9, rcs, fvs, rf_s, rf_n, isI_i, isL_l, isR_r, isR_n, isR_q, ct_i, ct_l, ct_r, ct_n, ct_q, tFs, tCs, tKs, tJs, tSs, e_nf, lgs, ↓reduceIte, true_and, and_true, false_and, and_false, or_true, true_or, false_or, or_false, Nat.reduceAdd, Nat.reduceEqDiff, Nat.reduceDiv, Nat.reduceLT, Nat.reduceLeDiff, Nat.zero_add, reduceCtorEq, Bool.false_eq_true, Option.toList_some, Option.toList_none, List.cons_append, List.nil_append, not_true_eq_false, not_false_eq_true, Nat.sub_zero, dsX0_clear, jsX0_clear, xcX0_clear, hb, hy, hky, hny, hf, h1, h2, ↓sp_J7_fill_53178, hmK, hmN, hmI, hmL, hmR, haI, haL, haR, hmU, h31]
    unfold clM clF at hq
    simp only [hmU, hf] at hq
    exact hq
