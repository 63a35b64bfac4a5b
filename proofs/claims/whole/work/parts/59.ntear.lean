/-! the river: cost, point, tear -/
def wf1 (L : List SER) : Prop := ∀ S, S ∈ L → neB S.2.2.2.1 ∧ (mpts S.2.2.2.1).length ≤ 300 ∧ szOK 400 S.2.2.1
def aCost (L : List SER) (i j k : Int32) : Int32 := match sblk L i j with
  | none => -1
  | some X => if ¬ k < 0 ∧ k < nI X.1.length then (if tornB X then -4 else nI (eB (enc (X.1.take (k.toNatClampNeg + 1)))).length - nI (eB (enc (X.1.take k.toNatClampNeg))).length) else -1
def csX6_cost : CS := (cs_c 0 117 3 6 sp_X6_blockOf (cs_c 0 164 2 0 sp_X0_hasPoint (cs_c 0 136 1 0 sp_X0_isTorn (cs_c 0 167 3 1 sp_X1_readTo cs_0))))
theorem csoX6_cost : ∀ op x na cl sp, csX6_cost op x = some (na, cl, sp) → CallOK 6 4 91 op x na cl sp := (cs_c_ok (caX6_cost_117 okX6_blockOf) (cs_c_ok (caX6_cost_164 okX0_hasPoint) (cs_c_ok (caX6_cost_136 okX0_isTorn) (cs_c_ok (caX6_cost_167 okX1_readTo) cs_0_ok))))
theorem xcX6_cost : (∀ (Q : QT) (G : GT) (pc : Nat) (L : LV) (a0 a1 a2 : Value) (r : List Value) (M : HM) (k n : Nat), ex_i 6 5 1 false csX6_cost Q G (.invokevirtual 117) pc L (a2 :: a1 :: a0 :: r) M k n = (e_rm r ∧ e_rc M 6 [a0, a1, a2] ∧ sp_X6_blockOf [a0, a1, a2] M k n (fun v M' k' n' => G (pc + 3) L (v.toList ++ r) M' k' n'))) ∧ (∀ (Q : QT) (G : GT) (pc : Nat) (L : LV) (a0 a1 : Value) (r : List Value) (M : HM) (k n : Nat), ex_i 6 5 1 false csX6_cost Q G (.invokevirtual 164) pc L (a1 :: a0 :: r) M k n = (e_rm r ∧ e_rc M 0 [a0, a1] ∧ sp_X0_hasPoint [a0, a1] M k n (fun v M' k' n' => G (pc + 3) L (v.toList ++ r) M' k' n'))) ∧ (∀ (Q : QT) (G : GT) (pc : Nat) (L : LV) (a0 : Value) (r : List Value) (M : HM) (k n : Nat), ex_i 6 5 1 false csX6_cost Q G (.invokevirtual 136) pc L (a0 :: r) M k n = (e_rm r ∧ e_rc M 0 [a0] ∧ sp_X0_isTorn [a0] M k n (fun v M' k' n' => G (pc + 3) L (v.toList ++ r) M' k' n'))) ∧ (∀ (Q : QT) (G : GT) (pc : Nat) (L : LV) (a0 a1 a2 : Value) (r : List Value) (M : HM) (k n : Nat), ex_i 6 5 1 false csX6_cost Q G (.invokevirtual 167) pc L (a2 :: a1 :: a0 :: r) M k n = (e_rm r ∧ e_rc M 1 [a0, a1, a2] ∧ sp_X1_readTo [a0, a1, a2] M k n (fun v M' k' n' => G (pc + 3) L (v.toList ++ r) M' k' n'))) := ⟨(fun _ _ _ _ _ _ _ _ _ _ _ => xv0_3 rfl), (fun _ _ _ _ _ _ _ _ _ _ => xv0_2 rfl), (fun _ _ _ _ _ _ _ _ _ => xv0_1 rfl), (fun _ _ _ _ _ _ _ _ _ _ _ => xv0_3 rfl)⟩
def sp_X6_cost : SP := fun as M k n Q => match as with
  | [.ref x, .int i, .int j, .int p] => ∃ O L sc ct tr m, NRep O M x L sc ct tr ∧ mK M m = 8 ∧ wf1 L ∧ ∀ O' M', NRep O' M' x L sc ct tr → Fr (SN m) O O' M M' → Q (some (.int (aCost L i j p))) M' k n
  | _ => False
theorem okX6_cost : OkX6_cost sp_X6_cost := by
  refine inX6_cost csoX6_cost ?_
  intro as M k n Q hsp
  unfold sp_X6_cost at hsp
  split at hsp
  rotate_left
  · exact hsp.elim
  rename_i x i j p
  obtain ⟨O, L, sc, ct, tr, m, hN, hm, hwf, hq⟩ := hsp
  have k0 := hN.1.1.1
  have kR := hN.1.1
  obtain ⟨z1, z2, z3, z4⟩ := hN.ks
  have hg := hN.2.2.2.2.1
  have gr := hN.1.1.2.2.1
  refine ⟨0, 0, Nat.zero_le _, Nat.zero_le _, Nat.le_of_ble_eq_true rfl, fun G hG => ?_⟩
  unfold aCost at hq
  obtain ⟨hSR, hb⟩ := hN.bo i j
  rcases hb with ⟨h1, h2⟩ | ⟨i', S, j', X, b, h1, rfl, h3, rfl, h5, h6, h7, h8, h9, h10, h11⟩
  · rw [h1] at hq
    refine e_g2 hG [] 40 ?_
    simp only [e_wp_s, Option.getD_some, Option.isSome_some, Option.isSome_none, xis0, xis1, xis2, xis3, xis4, e_ks, lk_k, lk_c, List.lookup_nil, gt_c, vi_i, k1_n, k1_c, k2_n, k2_c, ar_n, ar_c, pk_n, pk_c, rm_0, rm_1, rm_2, rm_3, rm_4, rm_5, rc_9, rcs, fvs, rf_s, rf_n, isI_i, isL_l, isR_r, isR_n, isR_q, ct_i, ct_l, ct_r, ct_n, ct_q, tFs, tCs, tKs, tJs, tSs, e_nf, lgs, ↓reduceIte, true_and, and_true, false_and, and_false, or_true, true_or, false_or, or_false, Nat.reduceAdd, Nat.reduceEqDiff, Nat.reduceDiv, Nat.reduceLT, Nat.reduceLeDiff, Nat.zero_add, reduceCtorEq, Bool.false_eq_true, Option.toList_some, Option.toList_none, List.cons_append, List.nil_append, not_true_eq_false, not_false_eq_true, Nat.sub_zero, dsX6_cost, jsX6_cost, xcX6_cost, k0, kR, h2, ↓sp_X6_blockOf]
    exact ⟨hSR, hq O M hN Fr.rf⟩
  · simp only [h1] at hq
    have b0 := h9.K
    have v4 : mI M 4 b = nI X.1.length := h9.2.2.2.2.2.2.2.2.1.1
    by_cases c : ¬ p < 0 ∧ p < nI X.1.length
    · simp only [c, not_false_eq_true, and_self, if_true] at hq
      by_cases ct1 : tornB X = true
      · rw [if_pos ct1] at hq
        have ht := h9.torn.mpr ct1
        refine e_g2 hG [] 60 ?_
        simp only [e_wp_s, Option.getD_some, Option.isSome_some, Option.isSome_none, xis0, xis1, xis2, xis3, xis4, e_ks, lk_k, lk_c, List.lookup_nil, gt_c, vi_i, k1_n, k1_c, k2_n, k2_c, ar_n, ar_c, pk_n, pk_c, rm_0, rm_1, rm_2, rm_3, rm_4, rm_5, rc_9, rcs, fvs, rf_s, rf_n, isI_i, isL_l, isR_r, isR_n, isR_q, ct_i, ct_l, ct_r, ct_n, ct_q, tFs, tCs, tKs, tJs, tSs, e_nf, lgs, ↓reduceIte, true_and, and_true, false_and, and_false, or_true, true_or, false_or, or_false, Nat.reduceAdd, Nat.reduceEqDiff, Nat.reduceDiv, Nat.reduceLT, Nat.reduceLeDiff, Nat.zero_add, reduceCtorEq, Bool.false_eq_true, Option.toList_some, Option.toList_none, List.cons_append, List.nil_append, not_true_eq_false, not_false_eq_true, Nat.sub_zero, dsX6_cost, jsX6_cost, xcX6_cost, k0, kR, h6, b0, v4, c, ht, i10, ↓sp_X6_blockOf, ↓sp_X0_hasPoint, ↓sp_X0_isTorn]
        exact ⟨hSR, hq O M hN Fr.rf⟩
      · rw [if_neg ct1] at hq
        have ht : ¬ 0 < mI M 2 b := fun z => ct1 (h9.torn.mp z)
        have hz : X.2 = zf := h9.z (by
          unfold tornB at ct1
          simpa using ct1)
        rw [hz] at h9
        have v16 := h9.2.2.2.2.2.2.2.2.1.2
        obtain ⟨p', hp, rfl⟩ := nI_of c.1
        rw [nI_clamp hp] at hq
        have cl := (nI_ltI hp (by omega)).mp c.2
        refine e_g2 hG [(45, [])] 60 ?_
        simp only [e_wp_s, Option.getD_some, Option.isSome_some, Option.isSome_none, xis0, xis1, xis2, xis3, xis4, e_ks, lk_k, lk_c, List.lookup_nil, gt_c, vi_i, k1_n, k1_c, k2_n, k2_c, ar_n, ar_c, pk_n, pk_c, rm_0, rm_1, rm_2, rm_3, rm_4, rm_5, rc_9, rcs, fvs, rf_s, rf_n, isI_i, isL_l, isR_r, isR_n, isR_q, ct_i, ct_l, ct_r, ct_n, ct_q, tFs, tCs, tKs, tJs, tSs, e_nf, lgs, ↓reduceIte, true_and, and_true, false_and, and_false, or_true, true_or, false_or, or_false, Nat.reduceAdd, Nat.reduceEqDiff, Nat.reduceDiv, Nat.reduceLT, Nat.reduceLeDiff, Nat.zero_add, reduceCtorEq, Bool.false_eq_true, Option.toList_some, Option.toList_none, List.cons_append, List.nil_append, not_true_eq_false, not_false_eq_true, Nat.sub_zero, dsX6_cost, jsX6_cost, xcX6_cost, k0, kR, h6, b0, v4, c, ht, gr, z2, i10, ↓sp_X6_blockOf, ↓sp_X0_hasPoint, ↓sp_X0_isTorn]
        refine ⟨hSR, O, gA M x, sA M x i', X.1, p', hg, h9, fun e => (by have := z4 i' S h3; rw [← e, z2] at this; cases this), rfl, cl, fun M' hg' hR h103 hk' hF => ?_⟩
        refine e_g2 hG [] 40 ?_
        simp only [e_wp_s, Option.getD_some, Option.isSome_some, Option.isSome_none, xis0, xis1, xis2, xis3, xis4, e_ks, lk_k, lk_c, List.lookup_nil, gt_c, vi_i, k1_n, k1_c, k2_n, k2_c, ar_n, ar_c, pk_n, pk_c, rm_0, rm_1, rm_2, rm_3, rm_4, rm_5, rc_9, rcs, fvs, rf_s, rf_n, isI_i, isL_l, isR_r, isR_n, isR_q, ct_i, ct_l, ct_r, ct_n, ct_q, tFs, tCs, tKs, tJs, tSs, e_nf, lgs, ↓reduceIte, true_and, and_true, false_and, and_false, or_true, true_or, false_or, or_false, Nat.reduceAdd, Nat.reduceEqDiff, Nat.reduceDiv, Nat.reduceLT, Nat.reduceLeDiff, Nat.zero_add, reduceCtorEq, Bool.false_eq_true, Option.toList_some, Option.toList_none, List.cons_append, List.nil_append, not_true_eq_false, not_false_eq_true, Nat.sub_zero, dsX6_cost, jsX6_cost, xcX6_cost, hk', h103]
        exact hq O M' (hN.gat hF hg') (fr_SN hF hm (by rw [z2]; decide))
    · rw [if_neg c] at hq
      refine e_g2 hG [] 60 ?_
      simp only [e_wp_s, Option.getD_some, Option.isSome_some, Option.isSome_none, xis0, xis1, xis2, xis3, xis4, e_ks, lk_k, lk_c, List.lookup_nil, gt_c, vi_i, k1_n, k1_c, k2_n, k2_c, ar_n, ar_c, pk_n, pk_c, rm_0, rm_1, rm_2, rm_3, rm_4, rm_5, rc_9, rcs, fvs, rf_s, rf_n, isI_i, isL_l, isR_r, isR_n, isR_q, ct_i, ct_l, ct_r, ct_n, ct_q, tFs, tCs, tKs, tJs, tSs, e_nf, lgs, ↓reduceIte, true_and, and_true, false_and, and_false, or_true, true_or, false_or, or_false, Nat.reduceAdd, Nat.reduceEqDiff, Nat.reduceDiv, Nat.reduceLT, Nat.reduceLeDiff, Nat.zero_add, reduceCtorEq, Bool.false_eq_true, Option.toList_some, Option.toList_none, List.cons_append, List.nil_append, not_true_eq_false, not_false_eq_true, Nat.sub_zero, dsX6_cost, jsX6_cost, xcX6_cost, k0, kR, h6, b0, v4, c, i10, ↓sp_X6_blockOf, ↓sp_X0_hasPoint]
      exact ⟨hSR, hq O M hN Fr.rf⟩
def aPoint (L : List SER) (i j k w : Int32) : Int64 := match sblk L i j with
  | none => NOv
  | some X => if ¬ k < 0 ∧ k < nI X.1.length then (if tornB X then NOv else match X.1[k.toNatClampNeg]? with
      | none => NOv
      | some p => aLat p w) else NOv
def csX6_point : CS := (cs_c 0 117 3 6 sp_X6_blockOf (cs_c 0 164 2 0 sp_X0_hasPoint (cs_c 0 136 1 0 sp_X0_isTorn (cs_c 0 167 3 1 sp_X1_readTo cs_0))))
theorem csoX6_point : ∀ op x na cl sp, csX6_point op x = some (na, cl, sp) → CallOK 6 4 91 op x na cl sp := (cs_c_ok (caX6_point_117 okX6_blockOf) (cs_c_ok (caX6_point_164 okX0_hasPoint) (cs_c_ok (caX6_point_136 okX0_isTorn) (cs_c_ok (caX6_point_167 okX1_readTo) cs_0_ok))))
theorem xcX6_point : (∀ (Q : QT) (G : GT) (pc : Nat) (L : LV) (a0 a1 a2 : Value) (r : List Value) (M : HM) (k n : Nat), ex_i 6 7 2 false csX6_point Q G (.invokevirtual 117) pc L (a2 :: a1 :: a0 :: r) M k n = (e_rm r ∧ e_rc M 6 [a0, a1, a2] ∧ sp_X6_blockOf [a0, a1, a2] M k n (fun v M' k' n' => G (pc + 3) L (v.toList ++ r) M' k' n'))) ∧ (∀ (Q : QT) (G : GT) (pc : Nat) (L : LV) (a0 a1 : Value) (r : List Value) (M : HM) (k n : Nat), ex_i 6 7 2 false csX6_point Q G (.invokevirtual 164) pc L (a1 :: a0 :: r) M k n = (e_rm r ∧ e_rc M 0 [a0, a1] ∧ sp_X0_hasPoint [a0, a1] M k n (fun v M' k' n' => G (pc + 3) L (v.toList ++ r) M' k' n'))) ∧ (∀ (Q : QT) (G : GT) (pc : Nat) (L : LV) (a0 : Value) (r : List Value) (M : HM) (k n : Nat), ex_i 6 7 2 false csX6_point Q G (.invokevirtual 136) pc L (a0 :: r) M k n = (e_rm r ∧ e_rc M 0 [a0] ∧ sp_X0_isTorn [a0] M k n (fun v M' k' n' => G (pc + 3) L (v.toList ++ r) M' k' n'))) ∧ (∀ (Q : QT) (G : GT) (pc : Nat) (L : LV) (a0 a1 a2 : Value) (r : List Value) (M : HM) (k n : Nat), ex_i 6 7 2 false csX6_point Q G (.invokevirtual 167) pc L (a2 :: a1 :: a0 :: r) M k n = (e_rm r ∧ e_rc M 1 [a0, a1, a2] ∧ sp_X1_readTo [a0, a1, a2] M k n (fun v M' k' n' => G (pc + 3) L (v.toList ++ r) M' k' n'))) := ⟨(fun _ _ _ _ _ _ _ _ _ _ _ => xv0_3 rfl), (fun _ _ _ _ _ _ _ _ _ _ => xv0_2 rfl), (fun _ _ _ _ _ _ _ _ _ => xv0_1 rfl), (fun _ _ _ _ _ _ _ _ _ _ _ => xv0_3 rfl)⟩
def sp_X6_point : SP := fun as M k n Q => match as with
  | [.ref x, .int i, .int j, .int p, .int w] => ∃ O L sc ct tr m, NRep O M x L sc ct tr ∧ mK M m = 8 ∧ wf1 L ∧ ∀ O' M', NRep O' M' x L sc ct tr → Fr (SN m) O O' M M' → Q (some (.long (aPoint L i j p w))) M' k n
  | _ => False
theorem okX6_point : OkX6_point sp_X6_point := by
  refine inX6_point csoX6_point ?_
  intro as M k n Q hsp
  unfold sp_X6_point at hsp
  split at hsp
  rotate_left
  · exact hsp.elim
  rename_i x i j p w
  obtain ⟨O, L, sc, ct, tr, m, hN, hm, hwf, hq⟩ := hsp
  have k0 := hN.1.1.1
  have kR := hN.1.1
  obtain ⟨z1, z2, z3, z4⟩ := hN.ks
  have hg := hN.2.2.2.2.1
  have gr := hN.1.1.2.2.1
  refine ⟨0, 0, Nat.zero_le _, Nat.zero_le _, Nat.le_of_ble_eq_true rfl, fun G hG => ?_⟩
  unfold aPoint at hq
  obtain ⟨hSR, hb⟩ := hN.bo i j
  rcases hb with ⟨h1, h2⟩ | ⟨i', S, j', X, b, h1, rfl, h3, rfl, h5, h6, h7, h8, h9, h10, h11⟩
  · rw [h1] at hq
    refine e_g2 hG [] 40 ?_
    simp only [e_wp_s, Option.getD_some, Option.isSome_some, Option.isSome_none, xis0, xis1, xis2, xis3, xis4, e_ks, lk_k, lk_c, List.lookup_nil, gt_c, vi_i, k1_n, k1_c, k2_n, k2_c, ar_n, ar_c, pk_n, pk_c, rm_0, rm_1, rm_2, rm_3, rm_4, rm_5, rc_9, rcs, fvs, rf_s, rf_n, isI_i, isL_l, isR_r, isR_n, isR_q, ct_i, ct_l, ct_r, ct_n, ct_q, tFs, tCs, tKs, tJs, tSs, e_nf, lgs, ↓reduceIte, true_and, and_true, false_and, and_false, or_true, true_or, false_or, or_false, Nat.reduceAdd, Nat.reduceEqDiff, Nat.reduceDiv, Nat.reduceLT, Nat.reduceLeDiff, Nat.zero_add, reduceCtorEq, Bool.false_eq_true, Option.toList_some, Option.toList_none, List.cons_append, List.nil_append, not_true_eq_false, not_false_eq_true, Nat.sub_zero, dsX6_point, jsX6_point, xcX6_point, k0, kR, h2, ↓sp_X6_blockOf]
    exact ⟨hSR, hq O M hN Fr.rf⟩
  · simp only [h1] at hq
    have b0 := h9.K
    have v4 : mI M 4 b = nI X.1.length := h9.2.2.2.2.2.2.2.2.1.1
    by_cases c : ¬ p < 0 ∧ p < nI X.1.length
    · simp only [c, not_false_eq_true, and_self, if_true] at hq
      by_cases ct1 : tornB X = true
      · rw [if_pos ct1] at hq
        have ht := h9.torn.mpr ct1
        refine e_g2 hG [] 60 ?_
        simp only [e_wp_s, Option.getD_some, Option.isSome_some, Option.isSome_none, xis0, xis1, xis2, xis3, xis4, e_ks, lk_k, lk_c, List.lookup_nil, gt_c, vi_i, k1_n, k1_c, k2_n, k2_c, ar_n, ar_c, pk_n, pk_c, rm_0, rm_1, rm_2, rm_3, rm_4, rm_5, rc_9, rcs, fvs, rf_s, rf_n, isI_i, isL_l, isR_r, isR_n, isR_q, ct_i, ct_l, ct_r, ct_n, ct_q, tFs, tCs, tKs, tJs, tSs, e_nf, lgs, ↓reduceIte, true_and, and_true, false_and, and_false, or_true, true_or, false_or, or_false, Nat.reduceAdd, Nat.reduceEqDiff, Nat.reduceDiv, Nat.reduceLT, Nat.reduceLeDiff, Nat.zero_add, reduceCtorEq, Bool.false_eq_true, Option.toList_some, Option.toList_none, List.cons_append, List.nil_append, not_true_eq_false, not_false_eq_true, Nat.sub_zero, dsX6_point, jsX6_point, xcX6_point, k0, kR, h6, b0, v4, c, ht, i10, ↓sp_X6_blockOf, ↓sp_X0_hasPoint, ↓sp_X0_isTorn]
        exact ⟨hSR, hq O M hN Fr.rf⟩
      · rw [if_neg ct1] at hq
        have ht : ¬ 0 < mI M 2 b := fun z => ct1 (h9.torn.mp z)
        have hz : X.2 = zf := h9.z (by
          unfold tornB at ct1
          simpa using ct1)
        rw [hz] at h9
        have v16 := h9.2.2.2.2.2.2.2.2.1.2
        obtain ⟨p', hp, rfl⟩ := nI_of c.1
        rw [nI_clamp hp] at hq
        have cl := (nI_ltI hp (by omega)).mp c.2
        obtain ⟨q, hx⟩ : ∃ q, X.1[p']? = some q := ⟨_, List.getElem?_eq_getElem cl⟩
        rw [hx] at hq
        refine e_g2 hG [(44, [4])] 60 ?_
        simp only [e_wp_s, Option.getD_some, Option.isSome_some, Option.isSome_none, xis0, xis1, xis2, xis3, xis4, e_ks, lk_k, lk_c, List.lookup_nil, gt_c, vi_i, k1_n, k1_c, k2_n, k2_c, ar_n, ar_c, pk_n, pk_c, rm_0, rm_1, rm_2, rm_3, rm_4, rm_5, rc_9, rcs, fvs, rf_s, rf_n, isI_i, isL_l, isR_r, isR_n, isR_q, ct_i, ct_l, ct_r, ct_n, ct_q, tFs, tCs, tKs, tJs, tSs, e_nf, lgs, ↓reduceIte, true_and, and_true, false_and, and_false, or_true, true_or, false_or, or_false, Nat.reduceAdd, Nat.reduceEqDiff, Nat.reduceDiv, Nat.reduceLT, Nat.reduceLeDiff, Nat.zero_add, reduceCtorEq, Bool.false_eq_true, Option.toList_some, Option.toList_none, List.cons_append, List.nil_append, not_true_eq_false, not_false_eq_true, Nat.sub_zero, dsX6_point, jsX6_point, xcX6_point, k0, kR, h6, b0, v4, c, ht, gr, z2, i10, ↓sp_X6_blockOf, ↓sp_X0_hasPoint, ↓sp_X0_isTorn]
        refine ⟨hSR, O, gA M x, sA M x i', X.1, p', hg, h9, fun e => (by have := z4 i' S h3; rw [← e, z2] at this; cases this), rfl, cl, fun M' hg' hR h103 hk' hF => ?_⟩
        have hq := hq O M' (hN.gat hF hg') (fr_SN hF hm (by rw [z2]; decide))
        rw [take_1 hx] at hR
        obtain ⟨tt, tv⟩ := hR.2.2.2.2 (by simp)
        rw [(enc_T _ q).1] at tt
        rw [(enc_T _ q).2] at tv
        refine e_g2 hG [] 40 ?_
        simp only [e_wp_s, Option.getD_some, Option.isSome_some, Option.isSome_none, xis0, xis1, xis2, xis3, xis4, e_ks, lk_k, lk_c, List.lookup_nil, gt_c, vi_i, k1_n, k1_c, k2_n, k2_c, ar_n, ar_c, pk_n, pk_c, rm_0, rm_1, rm_2, rm_3, rm_4, rm_5, rc_9, rcs, fvs, rf_s, rf_n, isI_i, isL_l, isR_r, isR_n, isR_q, ct_i, ct_l, ct_r, ct_n, ct_q, tFs, tCs, tKs, tJs, tSs, e_nf, lgs, ↓reduceIte, true_and, and_true, false_and, and_false, or_true, true_or, false_or, or_false, Nat.reduceAdd, Nat.reduceEqDiff, Nat.reduceDiv, Nat.reduceLT, Nat.reduceLeDiff, Nat.zero_add, reduceCtorEq, Bool.false_eq_true, Option.toList_some, Option.toList_none, List.cons_append, List.nil_append, not_true_eq_false, not_false_eq_true, Nat.sub_zero, dsX6_point, jsX6_point, xcX6_point, hk', tt, tv, e_tw, e_lw, Int.reduceAdd, tis]
        refine ⟨rfl, ?_⟩
        simp only [aLat] at hq
        by_cases c0' : w = 0
        · subst c0'
          simpa using hq
        by_cases c1' : w = 1
        · subst c1'
          simpa using hq
        simpa [NOv, c0', c1'] using hq
    · rw [if_neg c] at hq
      refine e_g2 hG [] 60 ?_
      simp only [e_wp_s, Option.getD_some, Option.isSome_some, Option.isSome_none, xis0, xis1, xis2, xis3, xis4, e_ks, lk_k, lk_c, List.lookup_nil, gt_c, vi_i, k1_n, k1_c, k2_n, k2_c, ar_n, ar_c, pk_n, pk_c, rm_0, rm_1, rm_2, rm_3, rm_4, rm_5, rc_9, rcs, fvs, rf_s, rf_n, isI_i, isL_l, isR_r, isR_n, isR_q, ct_i, ct_l, ct_r, ct_n, ct_q, tFs, tCs, tKs, tJs, tSs, e_nf, lgs, ↓reduceIte, true_and, and_true, false_and, and_false, or_true, true_or, false_or, or_false, Nat.reduceAdd, Nat.reduceEqDiff, Nat.reduceDiv, Nat.reduceLT, Nat.reduceLeDiff, Nat.zero_add, reduceCtorEq, Bool.false_eq_true, Option.toList_some, Option.toList_none, List.cons_append, List.nil_append, not_true_eq_false, not_false_eq_true, Nat.sub_zero, dsX6_point, jsX6_point, xcX6_point, k0, kR, h6, b0, v4, c, i10, ↓sp_X6_blockOf, ↓sp_X0_hasPoint]
      exact ⟨hSR, hq O M hN Fr.rf⟩
def setBk (S : SER) (bk : List BLK) : SER := (S.1, S.2.1, S.2.2.1, bk, S.2.2.2.2)
def aTear (L : List SER) (i j k mz : Int32) : Int32 × List SER := match ser L i with
  | none => (-1, L)
  | some S => match blkA S.2.2.2.1 j with
    | none => (-1, L)
    | some X => if ¬ k < 0 ∧ k < nI (((eB (enc X.1)).length + 7) / 8) then (if mz < 0 ∨ 255 < mz then (-2, L) else (byt (eB (enc X.1)) k.toNatClampNeg ^^^ (X.2 k.toNatClampNeg ^^^ mz), L.set i.toNatClampNeg (setBk S (S.2.2.2.1.set j.toNatClampNeg (X.1, flx X.2 k.toNatClampNeg mz))))) else (-1, L)
def csX6_tear : CS := (cs_c 0 117 3 6 sp_X6_blockOf (cs_c 0 155 2 0 sp_X0_hasByte (cs_c 0 161 3 0 sp_X0_flip (cs_c 0 158 2 0 sp_X0_byteNow cs_0))))
theorem csoX6_tear : ∀ op x na cl sp, csX6_tear op x = some (na, cl, sp) → CallOK 6 2 44 op x na cl sp := (cs_c_ok (caX6_tear_117 okX6_blockOf) (cs_c_ok (caX6_tear_155 okX0_hasByte) (cs_c_ok (caX6_tear_161 okX0_flip) (cs_c_ok (caX6_tear_158 okX0_byteNow) cs_0_ok))))
theorem xcX6_tear : (∀ (Q : QT) (G : GT) (pc : Nat) (L : LV) (a0 a1 a2 : Value) (r : List Value) (M : HM) (k n : Nat), ex_i 6 6 1 false csX6_tear Q G (.invokevirtual 117) pc L (a2 :: a1 :: a0 :: r) M k n = (e_rm r ∧ e_rc M 6 [a0, a1, a2] ∧ sp_X6_blockOf [a0, a1, a2] M k n (fun v M' k' n' => G (pc + 3) L (v.toList ++ r) M' k' n'))) ∧ (∀ (Q : QT) (G : GT) (pc : Nat) (L : LV) (a0 a1 : Value) (r : List Value) (M : HM) (k n : Nat), ex_i 6 6 1 false csX6_tear Q G (.invokevirtual 155) pc L (a1 :: a0 :: r) M k n = (e_rm r ∧ e_rc M 0 [a0, a1] ∧ sp_X0_hasByte [a0, a1] M k n (fun v M' k' n' => G (pc + 3) L (v.toList ++ r) M' k' n'))) ∧ (∀ (Q : QT) (G : GT) (pc : Nat) (L : LV) (a0 a1 a2 : Value) (r : List Value) (M : HM) (k n : Nat), ex_i 6 6 1 false csX6_tear Q G (.invokevirtual 161) pc L (a2 :: a1 :: a0 :: r) M k n = (e_rm r ∧ e_rc M 0 [a0, a1, a2] ∧ sp_X0_flip [a0, a1, a2] M k n (fun v M' k' n' => G (pc + 3) L (v.toList ++ r) M' k' n'))) ∧ (∀ (Q : QT) (G : GT) (pc : Nat) (L : LV) (a0 a1 : Value) (r : List Value) (M : HM) (k n : Nat), ex_i 6 6 1 false csX6_tear Q G (.invokevirtual 158) pc L (a1 :: a0 :: r) M k n = (e_rm r ∧ e_rc M 0 [a0, a1] ∧ sp_X0_byteNow [a0, a1] M k n (fun v M' k' n' => G (pc + 3) L (v.toList ++ r) M' k' n'))) := ⟨(fun _ _ _ _ _ _ _ _ _ _ _ => xv0_3 rfl), (fun _ _ _ _ _ _ _ _ _ _ => xv0_2 rfl), (fun _ _ _ _ _ _ _ _ _ _ _ => xv0_3 rfl), (fun _ _ _ _ _ _ _ _ _ _ => xv0_2 rfl)⟩
def sp_X6_tear : SP := fun as M k n Q => match as with
  | [.ref x, .int i, .int j, .int p, .int mz] => ∃ O L sc ct tr m, NRep O M x L sc ct tr ∧ mK M m = 8 ∧ wf1 L ∧ 1 ≤ k ∧ 226 ≤ n ∧ ∀ O' M', NRep O' M' x (aTear L i j p mz).2 sc ct tr → Fr (SN m) O O' M M' → Q (some (.int (aTear L i j p mz).1)) M' (k - 1) (n - 226)
  | _ => False
theorem okX6_tear : OkX6_tear sp_X6_tear := by
  refine inX6_tear csoX6_tear ?_
  intro as M k n Q hsp
  unfold sp_X6_tear at hsp
  split at hsp
  rotate_left
  · exact hsp.elim
  rename_i x i j p mz
  obtain ⟨O, L, sc, ct, tr, m, hN, hm, hwf, hk, hn, hq⟩ := hsp
  have k0 := hN.1.1.1
  have kR := hN.1.1
  obtain ⟨z1, z2, z3, z4⟩ := hN.ks
  refine ⟨1, 226, hk, hn, Nat.le_of_ble_eq_true rfl, fun G hG => ?_⟩
  unfold aTear at hq
  have hsb : ∀ S, ser L i = some S → sblk L i j = blkA S.2.2.2.1 j := fun S hS => by unfold sblk; rw [hS]
  obtain ⟨hSR, hb⟩ := hN.bo i j
  rcases hb with ⟨h1, h2⟩ | ⟨i', S, j', X, b, h1, rfl, h3, rfl, h5, h6, h7, h8, h9, h10, h11⟩
  · have hq' : Q (some (.int (-1))) M (k - 1) (n - 226) := by
      cases hs : ser L i with
      | none =>
        rw [hs] at hq
        exact hq O M hN Fr.rf
      | some S =>
        have h1' := (hsb S hs).symm.trans h1
        simp only [hs, h1'] at hq
        exact hq O M hN Fr.rf
    refine e_g2 hG [] 40 ?_
    simp only [e_wp_s, Option.getD_some, Option.isSome_some, Option.isSome_none, xis0, xis1, xis2, xis3, xis4, e_ks, lk_k, lk_c, List.lookup_nil, gt_c, vi_i, k1_n, k1_c, k2_n, k2_c, ar_n, ar_c, pk_n, pk_c, rm_0, rm_1, rm_2, rm_3, rm_4, rm_5, rc_9, rcs, fvs, rf_s, rf_n, isI_i, isL_l, isR_r, isR_n, isR_q, ct_i, ct_l, ct_r, ct_n, ct_q, tFs, tCs, tKs, tJs, tSs, e_nf, lgs, ↓reduceIte, true_and, and_true, false_and, and_false, or_true, true_or, false_or, or_false, Nat.reduceAdd, Nat.reduceEqDiff, Nat.reduceDiv, Nat.reduceLT, Nat.reduceLeDiff, Nat.zero_add, reduceCtorEq, Bool.false_eq_true, Option.toList_some, Option.toList_none, List.cons_append, List.nil_append, not_true_eq_false, not_false_eq_true, Nat.sub_zero, dsX6_tear, jsX6_tear, xcX6_tear, k0, kR, h2, ↓sp_X6_blockOf]
    exact ⟨hSR, hq'⟩
  · have hs : ser L (nI i') = some S := by
      unfold ser
      rw [if_neg (nI_pos (by omega)), nI_clamp (by omega)]; exact h3
    have h1' := (hsb S hs).symm.trans h1
    simp only [hs, h1'] at hq
    have b0 := h9.K
    have v3 : mI M 3 b = nI (eB (enc X.1)).length := h9.2.2.2.2.2.2.2.1
    have v16 := h9.2.2.2.2.2.2.2.2.1.2
    have hen := enc_1808 v16
    have hbc := bc_e (show (eB (enc X.1)).length ≤ 1808 by omega)
    by_cases c : ¬ p < 0 ∧ p < nI (((eB (enc X.1)).length + 7) / 8)
    · simp only [c, not_false_eq_true, and_self, if_true] at hq
      by_cases c1 : mz < 0
      · rw [if_pos (Or.inl c1)] at hq
        refine e_g2 hG [] 60 ?_
        simp only [e_wp_s, Option.getD_some, Option.isSome_some, Option.isSome_none, xis0, xis1, xis2, xis3, xis4, e_ks, lk_k, lk_c, List.lookup_nil, gt_c, vi_i, k1_n, k1_c, k2_n, k2_c, ar_n, ar_c, pk_n, pk_c, rm_0, rm_1, rm_2, rm_3, rm_4, rm_5, rc_9, rcs, fvs, rf_s, rf_n, isI_i, isL_l, isR_r, isR_n, isR_q, ct_i, ct_l, ct_r, ct_n, ct_q, tFs, tCs, tKs, tJs, tSs, e_nf, lgs, ↓reduceIte, true_and, and_true, false_and, and_false, or_true, true_or, false_or, or_false, Nat.reduceAdd, Nat.reduceEqDiff, Nat.reduceDiv, Nat.reduceLT, Nat.reduceLeDiff, Nat.zero_add, reduceCtorEq, Bool.false_eq_true, Option.toList_some, Option.toList_none, List.cons_append, List.nil_append, not_true_eq_false, not_false_eq_true, Nat.sub_zero, dsX6_tear, jsX6_tear, xcX6_tear, k0, kR, h6, b0, v3, hbc, c, c1, i10, ↓sp_X6_blockOf, ↓sp_X0_hasByte]
        exact ⟨hSR, hq O M hN Fr.rf⟩
      · by_cases c2 : 255 < mz
        · rw [if_pos (Or.inr c2)] at hq
          refine e_g2 hG [] 60 ?_
          simp only [e_wp_s, Option.getD_some, Option.isSome_some, Option.isSome_none, xis0, xis1, xis2, xis3, xis4, e_ks, lk_k, lk_c, List.lookup_nil, gt_c, vi_i, k1_n, k1_c, k2_n, k2_c, ar_n, ar_c, pk_n, pk_c, rm_0, rm_1, rm_2, rm_3, rm_4, rm_5, rc_9, rcs, fvs, rf_s, rf_n, isI_i, isL_l, isR_r, isR_n, isR_q, ct_i, ct_l, ct_r, ct_n, ct_q, tFs, tCs, tKs, tJs, tSs, e_nf, lgs, ↓reduceIte, true_and, and_true, false_and, and_false, or_true, true_or, false_or, or_false, Nat.reduceAdd, Nat.reduceEqDiff, Nat.reduceDiv, Nat.reduceLT, Nat.reduceLeDiff, Nat.zero_add, reduceCtorEq, Bool.false_eq_true, Option.toList_some, Option.toList_none, List.cons_append, List.nil_append, not_true_eq_false, not_false_eq_true, Nat.sub_zero, dsX6_tear, jsX6_tear, xcX6_tear, k0, kR, h6, b0, v3, hbc, c, c1, c2, i10, ↓sp_X6_blockOf, ↓sp_X0_hasByte]
          exact ⟨hSR, hq O M hN Fr.rf⟩
        · rw [if_neg (fun z => z.elim c1 c2)] at hq
          obtain ⟨p', hp, rfl⟩ := nI_of c.1
          have cl := (nI_ltI hp (by omega)).mp c.2
          simp only [nI_clamp hp, nI_clamp (show i' < 2 ^ 31 by omega), nI_clamp (show j' < 2 ^ 31 by omega)] at hq
          refine e_g2 hG [(48, [0, 3, 5])] 60 ?_
          simp only [e_wp_s, Option.getD_some, Option.isSome_some, Option.isSome_none, xis0, xis1, xis2, xis3, xis4, e_ks, lk_k, lk_c, List.lookup_nil, gt_c, vi_i, k1_n, k1_c, k2_n, k2_c, ar_n, ar_c, pk_n, pk_c, rm_0, rm_1, rm_2, rm_3, rm_4, rm_5, rc_9, rcs, fvs, rf_s, rf_n, isI_i, isL_l, isR_r, isR_n, isR_q, ct_i, ct_l, ct_r, ct_n, ct_q, tFs, tCs, tKs, tJs, tSs, e_nf, lgs, ↓reduceIte, true_and, and_true, false_and, and_false, or_true, true_or, false_or, or_false, Nat.reduceAdd, Nat.reduceEqDiff, Nat.reduceDiv, Nat.reduceLT, Nat.reduceLeDiff, Nat.zero_add, reduceCtorEq, Bool.false_eq_true, Option.toList_some, Option.toList_none, List.cons_append, List.nil_append, not_true_eq_false, not_false_eq_true, Nat.sub_zero, dsX6_tear, jsX6_tear, xcX6_tear, k0, kR, h6, b0, v3, hbc, c, c1, c2, i10, ↓sp_X6_blockOf, ↓sp_X0_hasByte]
          refine ⟨hSR, flF h9 (by omega) (Nat.le_refl _) (Nat.le_refl _) (fun M' O' k' n' hB' hF => ?_)⟩
          have hW := hB'.1
          have b0' := hB'.K
          have a1 : ¬ nI p' < 0 := c.1
          have a2 : nI p' < 226 := nI_lt (b := 226) (by omega) (by decide)
          have a3 : (nI p').toNatClampNeg = p' := nI_clamp hp
          have v1 := hB'.2.2.2.2.2.1 p'
          have hfl : flx X.2 p' mz p' = X.2 p' ^^^ mz := by unfold flx; rw [if_pos rfl]
          rw [hfl] at v1
          have hFs := hF.b2s (by rw [h9.2.1.1])
          have hS' := SRep.blk h7 h10 h8 hF hB'
          refine e_g2 hG [] 60 ?_
          simp only [e_wp_s, Option.getD_some, Option.isSome_some, Option.isSome_none, xis0, xis1, xis2, xis3, xis4, e_ks, lk_k, lk_c, List.lookup_nil, gt_c, vi_i, k1_n, k1_c, k2_n, k2_c, ar_n, ar_c, pk_n, pk_c, rm_0, rm_1, rm_2, rm_3, rm_4, rm_5, rc_9, rcs, fvs, rf_s, rf_n, isI_i, isL_l, isR_r, isR_n, isR_q, ct_i, ct_l, ct_r, ct_n, ct_q, tFs, tCs, tKs, tJs, tSs, e_nf, lgs, ↓reduceIte, true_and, and_true, false_and, and_false, or_true, true_or, false_or, or_false, Nat.reduceAdd, Nat.reduceEqDiff, Nat.reduceDiv, Nat.reduceLT, Nat.reduceLeDiff, Nat.zero_add, reduceCtorEq, Bool.false_eq_true, Option.toList_some, Option.toList_none, List.cons_append, List.nil_append, not_true_eq_false, not_false_eq_true, Nat.sub_zero, dsX6_tear, jsX6_tear, xcX6_tear, b0', hW, a1, a2, a3, v1, ↓sp_X0_byteNow]
          exact hq O' M' (hN.mut h3 hFs hS') (fr_SN hFs hm (by rw [z4 i' S h3]; decide))
    · rw [if_neg c] at hq
      refine e_g2 hG [] 60 ?_
      simp only [e_wp_s, Option.getD_some, Option.isSome_some, Option.isSome_none, xis0, xis1, xis2, xis3, xis4, e_ks, lk_k, lk_c, List.lookup_nil, gt_c, vi_i, k1_n, k1_c, k2_n, k2_c, ar_n, ar_c, pk_n, pk_c, rm_0, rm_1, rm_2, rm_3, rm_4, rm_5, rc_9, rcs, fvs, rf_s, rf_n, isI_i, isL_l, isR_r, isR_n, isR_q, ct_i, ct_l, ct_r, ct_n, ct_q, tFs, tCs, tKs, tJs, tSs, e_nf, lgs, ↓reduceIte, true_and, and_true, false_and, and_false, or_true, true_or, false_or, or_false, Nat.reduceAdd, Nat.reduceEqDiff, Nat.reduceDiv, Nat.reduceLT, Nat.reduceLeDiff, Nat.zero_add, reduceCtorEq, Bool.false_eq_true, Option.toList_some, Option.toList_none, List.cons_append, List.nil_append, not_true_eq_false, not_false_eq_true, Nat.sub_zero, dsX6_tear, jsX6_tear, xcX6_tear, k0, kR, h6, b0, v3, hbc, c, i10, ↓sp_X6_blockOf, ↓sp_X0_hasByte]
      exact ⟨hSR, hq O M hN Fr.rf⟩
