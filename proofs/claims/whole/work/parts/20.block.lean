def csX0_isTorn : CS := cs_0
theorem csoX0_isTorn : ∀ op x na cl sp, csX0_isTorn op x = some (na, cl, sp) → CallOK 0 0 0 op x na cl sp := cs_0_ok
def sp_X0_isTorn : SP := fun as M k n Q => match as with
  | [.ref b] => mK M b = 1 ∧ Q (some (.int (if 0 < mI M 2 b then 1 else 0))) M k n
  | _ => False
theorem okX0_isTorn : OkX0_isTorn sp_X0_isTorn := by
  refine inX0_isTorn csoX0_isTorn ?_
  intro as M k n Q hsp
  unfold sp_X0_isTorn at hsp
  split at hsp
  rotate_left
  · exact hsp.elim
  rename_i b
  obtain ⟨hb, hq⟩ := hsp
  refine ⟨0, 0, Nat.zero_le _, Nat.zero_le _, Nat.le_of_ble_eq_true rfl, fun G hG => ?_⟩
  refine e_g2 hG [] 30 ?_
  simp only [e_wp_s, Option.getD_some, Option.isSome_some, Option.isSome_none, xis0, xis1, xis2, xis3, xis4, e_ks, lk_k, lk_c, List.lookup_nil, gt_c, vi_i, k1_n, k1_c, k2_n, k2_c, ar_n, ar_c, pk_n, pk_c, rm_0, rm_1, rm_2, rm_3, rm_4, rm_5, rc_9, rcs, fvs, rf_s, rf_n, isI_i, isL_l, isR_r, isR_n, isR_q, ct_i, ct_l, ct_r, ct_n, ct_q, tFs, tCs, tKs, tJs, tSs, e_nf, lgs, ↓reduceIte, true_and, and_true, false_and, and_false, or_true, true_or, false_or, or_false, Nat.reduceAdd, Nat.reduceEqDiff, Nat.reduceDiv, Nat.reduceLT, Nat.reduceLeDiff, Nat.zero_add, reduceCtorEq, Bool.false_eq_true, Option.toList_some, Option.toList_none, List.cons_append, List.nil_append, not_true_eq_false, not_false_eq_true, dsX0_isTorn, jsX0_isTorn, hb]
  trace_state
  sorry
