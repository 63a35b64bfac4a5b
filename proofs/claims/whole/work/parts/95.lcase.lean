/-! the law's cases -/
set_option maxRecDepth 20000 in
theorem lc_series {Q : QT} {G : GT} {b L : Nat} {xs : Nat → Int32} {O : GH} {A : Nat → Nat} {M : HM} {x m i k n : Nat} {Ls : List SER} {z : Nat × Nat × Nat} (hG : e_cls b L xs 8 4 4 false cL_law csL_law Q G) (hi : i + 9 ≤ L) (hL : L ≤ 4608) (h : LI O A M x m Ls z) (hk : 98 ≤ k) (hn : 9600 ≤ n) (hN : ∀ O A M Ls z k' n', LI O A M x m Ls z → k - 98 ≤ k' → n - 9600 ≤ n' → G 1431 [(0, .ref b), (1, .ref x), (2, .ref m), (3, .int (nI i))] [] M k' n') : G 148 [(0, .ref b), (1, .ref x), (2, .ref m), (3, .int (nI i))] [] M k n := by
  obtain ⟨hN1, hM1, hW⟩ := h
  have kx := hN1.ks.1
  have km := hM1.1.1
  have c1 : (nI (i + 1)).toNatClampNeg = i + 1 := nI_clamp (by omega)
  have v1 : vp_in (nI (i + 1)) L := vp_in_nI (by omega) (by omega)
  refine e_gs hG [(157, [0, 1, 2, 3])] 120 ?_
  simp only [e_wps_s, xs_ia, xs_al, xs_a, xs_b, xs_c, Option.getD_some, Option.isSome_some, Option.isSome_none, xis0, xis1, xis2, xis3, xis4, e_ks, lk_k, lk_c, List.lookup_nil, gt_c, vi_i, k1_n, k1_c, k2_n, k2_c, ar_n, ar_c, pk_n, pk_c, rm_0, rm_1, rm_2, rm_3, rm_4, rm_5, rc_9, rcs, fvs, rf_s, rf_n, isI_i, isL_l, isR_r, isR_n, isR_q, ct_i, ct_l, ct_r, ct_n, ct_q, tFs, tCs, tKs, tJs, tSs, e_nf, lgs, ↓reduceIte, true_and, and_true, false_and, and_false, or_true, true_or, false_or, or_false, Nat.reduceAdd, Nat.reduceEqDiff, Nat.reduceDiv, Nat.reduceLT, Nat.reduceLeDiff, Nat.zero_add, reduceCtorEq, Bool.false_eq_true, Option.toList_some, Option.toList_none, List.cons_append, List.nil_append, not_true_eq_false, not_false_eq_true, Nat.sub_zero, dsL_law_0, jsL_law_0, jsL_law_1, xcL_law, kx, c1, v1, nI_1, nIks]
  refine ⟨O, Ls, _, _, _, m, hN1, km, by omega, by omega, fun O2 M2 hN2 hF => ?_⟩
  have hM2 := hM1.out hF
  have km2 := hM2.1.1
  refine e_gs hG [(166, [0, 1, 2, 3])] 120 ?_
  simp only [e_wps_s, xs_ia, xs_al, xs_a, xs_b, xs_c, Option.getD_some, Option.isSome_some, Option.isSome_none, xis0, xis1, xis2, xis3, xis4, e_ks, lk_k, lk_c, List.lookup_nil, gt_c, vi_i, k1_n, k1_c, k2_n, k2_c, ar_n, ar_c, pk_n, pk_c, rm_0, rm_1, rm_2, rm_3, rm_4, rm_5, rc_9, rcs, fvs, rf_s, rf_n, isI_i, isL_l, isR_r, isR_n, isR_q, ct_i, ct_l, ct_r, ct_n, ct_q, tFs, tCs, tKs, tJs, tSs, e_nf, lgs, ↓reduceIte, true_and, and_true, false_and, and_false, or_true, true_or, false_or, or_false, Nat.reduceAdd, Nat.reduceEqDiff, Nat.reduceDiv, Nat.reduceLT, Nat.reduceLeDiff, Nat.zero_add, reduceCtorEq, Bool.false_eq_true, Option.toList_some, Option.toList_none, List.cons_append, List.nil_append, not_true_eq_false, not_false_eq_true, Nat.sub_zero, dsL_law_0, jsL_law_0, jsL_law_1, xcL_law, km2, c1, v1, nI_1, nIks]
  refine ⟨A, O2, Ls, z, hM2, fun U hU hFU => ?_⟩
  refine e_gs hG [(1431, [0, 1, 2, 3])] 120 ?_
  simp only [e_wps_s, xs_ia, xs_al, xs_a, xs_b, xs_c, Option.getD_some, Option.isSome_some, Option.isSome_none, xis0, xis1, xis2, xis3, xis4, e_ks, lk_k, lk_c, List.lookup_nil, gt_c, vi_i, k1_n, k1_c, k2_n, k2_c, ar_n, ar_c, pk_n, pk_c, rm_0, rm_1, rm_2, rm_3, rm_4, rm_5, rc_9, rcs, fvs, rf_s, rf_n, isI_i, isL_l, isR_r, isR_n, isR_q, ct_i, ct_l, ct_r, ct_n, ct_q, tFs, tCs, tKs, tJs, tSs, e_nf, lgs, ↓reduceIte, true_and, and_true, false_and, and_false, or_true, true_or, false_or, or_false, Nat.reduceAdd, Nat.reduceEqDiff, Nat.reduceDiv, Nat.reduceLT, Nat.reduceLeDiff, Nat.zero_add, reduceCtorEq, Bool.false_eq_true, Option.toList_some, Option.toList_none, List.cons_append, List.nil_append, not_true_eq_false, not_false_eq_true, Nat.sub_zero, dsL_law_0, jsL_law_0, jsL_law_1, xcL_law, nI_1]
  exact hN _ _ _ _ _ _ _ ⟨hN2.ref hFU km2, hU, hW.ser0 _⟩ (by omega) (by omega)
set_option maxRecDepth 20000 in
theorem lc_label {Q : QT} {G : GT} {b L : Nat} {xs : Nat → Int32} {O : GH} {A : Nat → Nat} {M : HM} {x m i k n : Nat} {Ls : List SER} {z : Nat × Nat × Nat} (hG : e_cls b L xs 8 4 4 false cL_law csL_law Q G) (hi : i + 9 ≤ L) (hL : L ≤ 4608) (h : LI O A M x m Ls z) (hk : 98 ≤ k) (hn : 9600 ≤ n) (hN : ∀ O A M Ls z k' n', LI O A M x m Ls z → k - 98 ≤ k' → n - 9600 ≤ n' → G 1431 [(0, .ref b), (1, .ref x), (2, .ref m), (3, .int (nI i))] [] M k' n') : G 171 [(0, .ref b), (1, .ref x), (2, .ref m), (3, .int (nI i))] [] M k n := by
  obtain ⟨hN1, hM1, hW⟩ := h
  have kx := hN1.ks.1
  have km := hM1.1.1
  have c1 : (nI (i + 1)).toNatClampNeg = i + 1 := nI_clamp (by omega)
  have v1 : vp_in (nI (i + 1)) L := vp_in_nI (by omega) (by omega)
  have c2 : (nI (i + 2)).toNatClampNeg = i + 2 := nI_clamp (by omega)
  have v2 : vp_in (nI (i + 2)) L := vp_in_nI (by omega) (by omega)
  have c3 : (nI (i + 3)).toNatClampNeg = i + 3 := nI_clamp (by omega)
  have v3 : vp_in (nI (i + 3)) L := vp_in_nI (by omega) (by omega)
  refine e_gs hG [(190, [0, 1, 2, 3])] 120 ?_
  simp only [e_wps_s, xs_ia, xs_al, xs_a, xs_b, xs_c, Option.getD_some, Option.isSome_some, Option.isSome_none, xis0, xis1, xis2, xis3, xis4, e_ks, lk_k, lk_c, List.lookup_nil, gt_c, vi_i, k1_n, k1_c, k2_n, k2_c, ar_n, ar_c, pk_n, pk_c, rm_0, rm_1, rm_2, rm_3, rm_4, rm_5, rc_9, rcs, fvs, rf_s, rf_n, isI_i, isL_l, isR_r, isR_n, isR_q, ct_i, ct_l, ct_r, ct_n, ct_q, tFs, tCs, tKs, tJs, tSs, e_nf, lgs, ↓reduceIte, true_and, and_true, false_and, and_false, or_true, true_or, false_or, or_false, Nat.reduceAdd, Nat.reduceEqDiff, Nat.reduceDiv, Nat.reduceLT, Nat.reduceLeDiff, Nat.zero_add, reduceCtorEq, Bool.false_eq_true, Option.toList_some, Option.toList_none, List.cons_append, List.nil_append, not_true_eq_false, not_false_eq_true, Nat.sub_zero, dsL_law_0, jsL_law_0, jsL_law_1, xcL_law, kx, c1, v1, c2, v2, c3, v3, nI_1, nIks]
  refine ⟨O, Ls, _, _, _, m, hN1, km, fun O2 M2 hN2 hF => ?_⟩
  have hM2 := hM1.out hF
  have km2 := hM2.1.1
  refine e_gs hG [(209, [0, 1, 2, 3])] 120 ?_
  simp only [e_wps_s, xs_ia, xs_al, xs_a, xs_b, xs_c, Option.getD_some, Option.isSome_some, Option.isSome_none, xis0, xis1, xis2, xis3, xis4, e_ks, lk_k, lk_c, List.lookup_nil, gt_c, vi_i, k1_n, k1_c, k2_n, k2_c, ar_n, ar_c, pk_n, pk_c, rm_0, rm_1, rm_2, rm_3, rm_4, rm_5, rc_9, rcs, fvs, rf_s, rf_n, isI_i, isL_l, isR_r, isR_n, isR_q, ct_i, ct_l, ct_r, ct_n, ct_q, tFs, tCs, tKs, tJs, tSs, e_nf, lgs, ↓reduceIte, true_and, and_true, false_and, and_false, or_true, true_or, false_or, or_false, Nat.reduceAdd, Nat.reduceEqDiff, Nat.reduceDiv, Nat.reduceLT, Nat.reduceLeDiff, Nat.zero_add, reduceCtorEq, Bool.false_eq_true, Option.toList_some, Option.toList_none, List.cons_append, List.nil_append, not_true_eq_false, not_false_eq_true, Nat.sub_zero, dsL_law_0, dsL_law_1, jsL_law_0, jsL_law_1, xcL_law, km2, c1, v1, c2, v2, c3, v3, nI_1, nIks]
  refine ⟨A, O2, Ls, z, hM2, fun U hU hFU => ?_⟩
  refine e_gs hG [(1431, [0, 1, 2, 3])] 120 ?_
  simp only [e_wps_s, xs_ia, xs_al, xs_a, xs_b, xs_c, Option.getD_some, Option.isSome_some, Option.isSome_none, xis0, xis1, xis2, xis3, xis4, e_ks, lk_k, lk_c, List.lookup_nil, gt_c, vi_i, k1_n, k1_c, k2_n, k2_c, ar_n, ar_c, pk_n, pk_c, rm_0, rm_1, rm_2, rm_3, rm_4, rm_5, rc_9, rcs, fvs, rf_s, rf_n, isI_i, isL_l, isR_r, isR_n, isR_q, ct_i, ct_l, ct_r, ct_n, ct_q, tFs, tCs, tKs, tJs, tSs, e_nf, lgs, ↓reduceIte, true_and, and_true, false_and, and_false, or_true, true_or, false_or, or_false, Nat.reduceAdd, Nat.reduceEqDiff, Nat.reduceDiv, Nat.reduceLT, Nat.reduceLeDiff, Nat.zero_add, reduceCtorEq, Bool.false_eq_true, Option.toList_some, Option.toList_none, List.cons_append, List.nil_append, not_true_eq_false, not_false_eq_true, Nat.sub_zero, dsL_law_1, jsL_law_0, jsL_law_1, xcL_law, nI_1]
  exact hN _ _ _ _ _ _ _ ⟨hN2.ref hFU km2, hU, hW.lab0 _ _ _⟩ (by omega) (by omega)
set_option maxRecDepth 20000 in
theorem lc_match {Q : QT} {G : GT} {b L : Nat} {xs : Nat → Int32} {O : GH} {A : Nat → Nat} {M : HM} {x m i k n : Nat} {Ls : List SER} {z : Nat × Nat × Nat} (hG : e_cls b L xs 8 4 4 false cL_law csL_law Q G) (hi : i + 9 ≤ L) (hL : L ≤ 4608) (h : LI O A M x m Ls z) (hk : 98 ≤ k) (hn : 9600 ≤ n) (hN : ∀ O A M Ls z k' n', LI O A M x m Ls z → k - 98 ≤ k' → n - 9600 ≤ n' → G 1431 [(0, .ref b), (1, .ref x), (2, .ref m), (3, .int (nI i))] [] M k' n') : G 214 [(0, .ref b), (1, .ref x), (2, .ref m), (3, .int (nI i))] [] M k n := by
  obtain ⟨hN1, hM1, hW⟩ := h
  have kx := hN1.ks.1
  have km := hM1.1.1
  have c1 : (nI (i + 1)).toNatClampNeg = i + 1 := nI_clamp (by omega)
  have v1 : vp_in (nI (i + 1)) L := vp_in_nI (by omega) (by omega)
  have c2 : (nI (i + 2)).toNatClampNeg = i + 2 := nI_clamp (by omega)
  have v2 : vp_in (nI (i + 2)) L := vp_in_nI (by omega) (by omega)
  have c3 : (nI (i + 3)).toNatClampNeg = i + 3 := nI_clamp (by omega)
  have v3 : vp_in (nI (i + 3)) L := vp_in_nI (by omega) (by omega)
  have c4 : (nI (i + 4)).toNatClampNeg = i + 4 := nI_clamp (by omega)
  have v4 : vp_in (nI (i + 4)) L := vp_in_nI (by omega) (by omega)
  have c5 : (nI (i + 5)).toNatClampNeg = i + 5 := nI_clamp (by omega)
  have v5 : vp_in (nI (i + 5)) L := vp_in_nI (by omega) (by omega)
  refine e_gs hG [(243, [0, 1, 2, 3])] 120 ?_
  simp only [e_wps_s, xs_ia, xs_al, xs_a, xs_b, xs_c, Option.getD_some, Option.isSome_some, Option.isSome_none, xis0, xis1, xis2, xis3, xis4, e_ks, lk_k, lk_c, List.lookup_nil, gt_c, vi_i, k1_n, k1_c, k2_n, k2_c, ar_n, ar_c, pk_n, pk_c, rm_0, rm_1, rm_2, rm_3, rm_4, rm_5, rc_9, rcs, fvs, rf_s, rf_n, isI_i, isL_l, isR_r, isR_n, isR_q, ct_i, ct_l, ct_r, ct_n, ct_q, tFs, tCs, tKs, tJs, tSs, e_nf, lgs, ↓reduceIte, true_and, and_true, false_and, and_false, or_true, true_or, false_or, or_false, Nat.reduceAdd, Nat.reduceEqDiff, Nat.reduceDiv, Nat.reduceLT, Nat.reduceLeDiff, Nat.zero_add, reduceCtorEq, Bool.false_eq_true, Option.toList_some, Option.toList_none, List.cons_append, List.nil_append, not_true_eq_false, not_false_eq_true, Nat.sub_zero, dsL_law_1, jsL_law_0, jsL_law_1, xcL_law, kx, c1, v1, c2, v2, c3, v3, c4, v4, c5, v5, nI_1, nIks]
  refine ⟨O, Ls, _, _, _, hN1, ?_⟩
  have hN2 := hN1
  have hM2 := hM1
  have km2 := km
  refine e_gs hG [(272, [0, 1, 2, 3])] 120 ?_
  simp only [e_wps_s, xs_ia, xs_al, xs_a, xs_b, xs_c, Option.getD_some, Option.isSome_some, Option.isSome_none, xis0, xis1, xis2, xis3, xis4, e_ks, lk_k, lk_c, List.lookup_nil, gt_c, vi_i, k1_n, k1_c, k2_n, k2_c, ar_n, ar_c, pk_n, pk_c, rm_0, rm_1, rm_2, rm_3, rm_4, rm_5, rc_9, rcs, fvs, rf_s, rf_n, isI_i, isL_l, isR_r, isR_n, isR_q, ct_i, ct_l, ct_r, ct_n, ct_q, tFs, tCs, tKs, tJs, tSs, e_nf, lgs, ↓reduceIte, true_and, and_true, false_and, and_false, or_true, true_or, false_or, or_false, Nat.reduceAdd, Nat.reduceEqDiff, Nat.reduceDiv, Nat.reduceLT, Nat.reduceLeDiff, Nat.zero_add, reduceCtorEq, Bool.false_eq_true, Option.toList_some, Option.toList_none, List.cons_append, List.nil_append, not_true_eq_false, not_false_eq_true, Nat.sub_zero, dsL_law_1, dsL_law_2, jsL_law_0, jsL_law_1, xcL_law, km2, c1, v1, c2, v2, c3, v3, c4, v4, c5, v5, nI_1, nIks]
  refine ⟨A, O, Ls, z, hM2, ?_⟩
  refine e_gs hG [(1431, [0, 1, 2, 3])] 120 ?_
  simp only [e_wps_s, xs_ia, xs_al, xs_a, xs_b, xs_c, Option.getD_some, Option.isSome_some, Option.isSome_none, xis0, xis1, xis2, xis3, xis4, e_ks, lk_k, lk_c, List.lookup_nil, gt_c, vi_i, k1_n, k1_c, k2_n, k2_c, ar_n, ar_c, pk_n, pk_c, rm_0, rm_1, rm_2, rm_3, rm_4, rm_5, rc_9, rcs, fvs, rf_s, rf_n, isI_i, isL_l, isR_r, isR_n, isR_q, ct_i, ct_l, ct_r, ct_n, ct_q, tFs, tCs, tKs, tJs, tSs, e_nf, lgs, ↓reduceIte, true_and, and_true, false_and, and_false, or_true, true_or, false_or, or_false, Nat.reduceAdd, Nat.reduceEqDiff, Nat.reduceDiv, Nat.reduceLT, Nat.reduceLeDiff, Nat.zero_add, reduceCtorEq, Bool.false_eq_true, Option.toList_some, Option.toList_none, List.cons_append, List.nil_append, not_true_eq_false, not_false_eq_true, Nat.sub_zero, dsL_law_2, jsL_law_0, jsL_law_1, xcL_law, nI_1]
  exact hN _ _ _ _ _ _ _ ⟨hN2, hM2, hW⟩ (by omega) (by omega)
set_option maxRecDepth 20000 in
theorem lc_put {Q : QT} {G : GT} {b L : Nat} {xs : Nat → Int32} {O : GH} {A : Nat → Nat} {M : HM} {x m i k n : Nat} {Ls : List SER} {z : Nat × Nat × Nat} (hG : e_cls b L xs 8 4 4 false cL_law csL_law Q G) (hi : i + 9 ≤ L) (hL : L ≤ 4608) (h : LI O A M x m Ls z) (hk : 98 ≤ k) (hn : 9600 ≤ n) (hN : ∀ O A M Ls z k' n', LI O A M x m Ls z → k - 98 ≤ k' → n - 9600 ≤ n' → G 1431 [(0, .ref b), (1, .ref x), (2, .ref m), (3, .int (nI i))] [] M k' n') : G 277 [(0, .ref b), (1, .ref x), (2, .ref m), (3, .int (nI i))] [] M k n := by
  obtain ⟨hN1, hM1, hW⟩ := h
  have kx := hN1.ks.1
  have km := hM1.1.1
  have c1 : (nI (i + 1)).toNatClampNeg = i + 1 := nI_clamp (by omega)
  have v1 : vp_in (nI (i + 1)) L := vp_in_nI (by omega) (by omega)
  have c2 : (nI (i + 2)).toNatClampNeg = i + 2 := nI_clamp (by omega)
  have v2 : vp_in (nI (i + 2)) L := vp_in_nI (by omega) (by omega)
  have c3 : (nI (i + 3)).toNatClampNeg = i + 3 := nI_clamp (by omega)
  have v3 : vp_in (nI (i + 3)) L := vp_in_nI (by omega) (by omega)
  have c4 : (nI (i + 4)).toNatClampNeg = i + 4 := nI_clamp (by omega)
  have v4 : vp_in (nI (i + 4)) L := vp_in_nI (by omega) (by omega)
  refine e_gs hG [(311, [0, 1, 2, 3])] 120 ?_
  simp only [e_wps_s, xs_ia, xs_al, xs_a, xs_b, xs_c, Option.getD_some, Option.isSome_some, Option.isSome_none, xis0, xis1, xis2, xis3, xis4, e_ks, lk_k, lk_c, List.lookup_nil, gt_c, vi_i, k1_n, k1_c, k2_n, k2_c, ar_n, ar_c, pk_n, pk_c, rm_0, rm_1, rm_2, rm_3, rm_4, rm_5, rc_9, rcs, fvs, rf_s, rf_n, isI_i, isL_l, isR_r, isR_n, isR_q, ct_i, ct_l, ct_r, ct_n, ct_q, tFs, tCs, tKs, tJs, tSs, e_nf, lgs, ↓reduceIte, true_and, and_true, false_and, and_false, or_true, true_or, false_or, or_false, Nat.reduceAdd, Nat.reduceEqDiff, Nat.reduceDiv, Nat.reduceLT, Nat.reduceLeDiff, Nat.zero_add, reduceCtorEq, Bool.false_eq_true, Option.toList_some, Option.toList_none, List.cons_append, List.nil_append, not_true_eq_false, not_false_eq_true, Nat.sub_zero, dsL_law_2, jsL_law_0, jsL_law_1, xcL_law, kx, c1, v1, c2, v2, c3, v3, c4, v4, nI_1, nIks]
  refine ⟨O, Ls, _, _, _, m, hN1, km, hW.w1, by omega, by omega, fun O2 M2 hN2 hF => ?_⟩
  have hM2 := hM1.out hF
  have km2 := hM2.1.1
  refine e_gs hG [(345, [0, 1, 2, 3])] 120 ?_
  simp only [e_wps_s, xs_ia, xs_al, xs_a, xs_b, xs_c, Option.getD_some, Option.isSome_some, Option.isSome_none, xis0, xis1, xis2, xis3, xis4, e_ks, lk_k, lk_c, List.lookup_nil, gt_c, vi_i, k1_n, k1_c, k2_n, k2_c, ar_n, ar_c, pk_n, pk_c, rm_0, rm_1, rm_2, rm_3, rm_4, rm_5, rc_9, rcs, fvs, rf_s, rf_n, isI_i, isL_l, isR_r, isR_n, isR_q, ct_i, ct_l, ct_r, ct_n, ct_q, tFs, tCs, tKs, tJs, tSs, e_nf, lgs, ↓reduceIte, true_and, and_true, false_and, and_false, or_true, true_or, false_or, or_false, Nat.reduceAdd, Nat.reduceEqDiff, Nat.reduceDiv, Nat.reduceLT, Nat.reduceLeDiff, Nat.zero_add, reduceCtorEq, Bool.false_eq_true, Option.toList_some, Option.toList_none, List.cons_append, List.nil_append, not_true_eq_false, not_false_eq_true, Nat.sub_zero, dsL_law_2, dsL_law_3, jsL_law_0, jsL_law_1, xcL_law, km2, c1, v1, c2, v2, c3, v3, c4, v4, nI_1, nIks]
  refine ⟨A, O2, Ls, z, hM2, fun U hU hFU => ?_⟩
  refine e_gs hG [(1431, [0, 1, 2, 3])] 120 ?_
  simp only [e_wps_s, xs_ia, xs_al, xs_a, xs_b, xs_c, Option.getD_some, Option.isSome_some, Option.isSome_none, xis0, xis1, xis2, xis3, xis4, e_ks, lk_k, lk_c, List.lookup_nil, gt_c, vi_i, k1_n, k1_c, k2_n, k2_c, ar_n, ar_c, pk_n, pk_c, rm_0, rm_1, rm_2, rm_3, rm_4, rm_5, rc_9, rcs, fvs, rf_s, rf_n, isI_i, isL_l, isR_r, isR_n, isR_q, ct_i, ct_l, ct_r, ct_n, ct_q, tFs, tCs, tKs, tJs, tSs, e_nf, lgs, ↓reduceIte, true_and, and_true, false_and, and_false, or_true, true_or, false_or, or_false, Nat.reduceAdd, Nat.reduceEqDiff, Nat.reduceDiv, Nat.reduceLT, Nat.reduceLeDiff, Nat.zero_add, reduceCtorEq, Bool.false_eq_true, Option.toList_some, Option.toList_none, List.cons_append, List.nil_append, not_true_eq_false, not_false_eq_true, Nat.sub_zero, dsL_law_3, jsL_law_0, jsL_law_1, xcL_law, nI_1]
  exact hN _ _ _ _ _ _ _ ⟨hN2.ref hFU km2, hU, hW.put0 _ _ _⟩ (by omega) (by omega)
set_option maxRecDepth 20000 in
theorem lc_fill {Q : QT} {G : GT} {b L : Nat} {xs : Nat → Int32} {O : GH} {A : Nat → Nat} {M : HM} {x m i k n : Nat} {Ls : List SER} {z : Nat × Nat × Nat} (hG : e_cls b L xs 8 4 4 false cL_law csL_law Q G) (hi : i + 9 ≤ L) (hL : L ≤ 4608) (h : LI O A M x m Ls z) (hk : 98 ≤ k) (hn : 9600 ≤ n) (hN : ∀ O A M Ls z k' n', LI O A M x m Ls z → k - 98 ≤ k' → n - 9600 ≤ n' → G 1431 [(0, .ref b), (1, .ref x), (2, .ref m), (3, .int (nI i))] [] M k' n') : G 350 [(0, .ref b), (1, .ref x), (2, .ref m), (3, .int (nI i))] [] M k n := by
  obtain ⟨hN1, hM1, hW⟩ := h
  have kx := hN1.ks.1
  have km := hM1.1.1
  have c1 : (nI (i + 1)).toNatClampNeg = i + 1 := nI_clamp (by omega)
  have v1 : vp_in (nI (i + 1)) L := vp_in_nI (by omega) (by omega)
  have c2 : (nI (i + 2)).toNatClampNeg = i + 2 := nI_clamp (by omega)
  have v2 : vp_in (nI (i + 2)) L := vp_in_nI (by omega) (by omega)
  have c3 : (nI (i + 3)).toNatClampNeg = i + 3 := nI_clamp (by omega)
  have v3 : vp_in (nI (i + 3)) L := vp_in_nI (by omega) (by omega)
  have c4 : (nI (i + 4)).toNatClampNeg = i + 4 := nI_clamp (by omega)
  have v4 : vp_in (nI (i + 4)) L := vp_in_nI (by omega) (by omega)
  have c5 : (nI (i + 5)).toNatClampNeg = i + 5 := nI_clamp (by omega)
  have v5 : vp_in (nI (i + 5)) L := vp_in_nI (by omega) (by omega)
  have c6 : (nI (i + 6)).toNatClampNeg = i + 6 := nI_clamp (by omega)
  have v6 : vp_in (nI (i + 6)) L := vp_in_nI (by omega) (by omega)
  have c7 : (nI (i + 7)).toNatClampNeg = i + 7 := nI_clamp (by omega)
  have v7 : vp_in (nI (i + 7)) L := vp_in_nI (by omega) (by omega)
  have c8 : (nI (i + 8)).toNatClampNeg = i + 8 := nI_clamp (by omega)
  have v8 : vp_in (nI (i + 8)) L := vp_in_nI (by omega) (by omega)
  refine e_gs hG [(417, [0, 1, 2, 3])] 120 ?_
  simp only [e_wps_s, xs_ia, xs_al, xs_a, xs_b, xs_c, Option.getD_some, Option.isSome_some, Option.isSome_none, xis0, xis1, xis2, xis3, xis4, e_ks, lk_k, lk_c, List.lookup_nil, gt_c, vi_i, k1_n, k1_c, k2_n, k2_c, ar_n, ar_c, pk_n, pk_c, rm_0, rm_1, rm_2, rm_3, rm_4, rm_5, rc_9, rcs, fvs, rf_s, rf_n, isI_i, isL_l, isR_r, isR_n, isR_q, ct_i, ct_l, ct_r, ct_n, ct_q, tFs, tCs, tKs, tJs, tSs, e_nf, lgs, ↓reduceIte, true_and, and_true, false_and, and_false, or_true, true_or, false_or, or_false, Nat.reduceAdd, Nat.reduceEqDiff, Nat.reduceDiv, Nat.reduceLT, Nat.reduceLeDiff, Nat.zero_add, reduceCtorEq, Bool.false_eq_true, Option.toList_some, Option.toList_none, List.cons_append, List.nil_append, not_true_eq_false, not_false_eq_true, Nat.sub_zero, dsL_law_3, dsL_law_4, jsL_law_0, jsL_law_1, xcL_law, kx, c1, v1, c2, v2, c3, v3, c4, v4, c5, v5, c6, v6, c7, v7, c8, v8, nI_1, nIks]
  refine ⟨O, Ls, _, _, _, m, hN1, km, hW.w1, by omega, by omega, fun O2 M2 hN2 hF => ?_⟩
  have hM2 := hM1.out hF
  have km2 := hM2.1.1
  refine e_gs hG [(484, [0, 1, 2, 3])] 120 ?_
  simp only [e_wps_s, xs_ia, xs_al, xs_a, xs_b, xs_c, Option.getD_some, Option.isSome_some, Option.isSome_none, xis0, xis1, xis2, xis3, xis4, e_ks, lk_k, lk_c, List.lookup_nil, gt_c, vi_i, k1_n, k1_c, k2_n, k2_c, ar_n, ar_c, pk_n, pk_c, rm_0, rm_1, rm_2, rm_3, rm_4, rm_5, rc_9, rcs, fvs, rf_s, rf_n, isI_i, isL_l, isR_r, isR_n, isR_q, ct_i, ct_l, ct_r, ct_n, ct_q, tFs, tCs, tKs, tJs, tSs, e_nf, lgs, ↓reduceIte, true_and, and_true, false_and, and_false, or_true, true_or, false_or, or_false, Nat.reduceAdd, Nat.reduceEqDiff, Nat.reduceDiv, Nat.reduceLT, Nat.reduceLeDiff, Nat.zero_add, reduceCtorEq, Bool.false_eq_true, Option.toList_some, Option.toList_none, List.cons_append, List.nil_append, not_true_eq_false, not_false_eq_true, Nat.sub_zero, dsL_law_4, dsL_law_5, jsL_law_0, jsL_law_1, xcL_law, km2, c1, v1, c2, v2, c3, v3, c4, v4, c5, v5, c6, v6, c7, v7, c8, v8, nI_1, nIks]
  refine ⟨A, O2, Ls, z, hM2, fun U hU hFU => ?_⟩
  refine e_gs hG [(1431, [0, 1, 2, 3])] 120 ?_
  simp only [e_wps_s, xs_ia, xs_al, xs_a, xs_b, xs_c, Option.getD_some, Option.isSome_some, Option.isSome_none, xis0, xis1, xis2, xis3, xis4, e_ks, lk_k, lk_c, List.lookup_nil, gt_c, vi_i, k1_n, k1_c, k2_n, k2_c, ar_n, ar_c, pk_n, pk_c, rm_0, rm_1, rm_2, rm_3, rm_4, rm_5, rc_9, rcs, fvs, rf_s, rf_n, isI_i, isL_l, isR_r, isR_n, isR_q, ct_i, ct_l, ct_r, ct_n, ct_q, tFs, tCs, tKs, tJs, tSs, e_nf, lgs, ↓reduceIte, true_and, and_true, false_and, and_false, or_true, true_or, false_or, or_false, Nat.reduceAdd, Nat.reduceEqDiff, Nat.reduceDiv, Nat.reduceLT, Nat.reduceLeDiff, Nat.zero_add, reduceCtorEq, Bool.false_eq_true, Option.toList_some, Option.toList_none, List.cons_append, List.nil_append, not_true_eq_false, not_false_eq_true, Nat.sub_zero, dsL_law_5, jsL_law_0, jsL_law_1, xcL_law, nI_1]
  exact hN _ _ _ _ _ _ _ ⟨hN2.ref hFU km2, hU, hW.fil0 _ _ _ _ _ _⟩ (by omega) (by omega)
set_option maxRecDepth 20000 in
theorem lc_merge {Q : QT} {G : GT} {b L : Nat} {xs : Nat → Int32} {O : GH} {A : Nat → Nat} {M : HM} {x m i k n : Nat} {Ls : List SER} {z : Nat × Nat × Nat} (hG : e_cls b L xs 8 4 4 false cL_law csL_law Q G) (hi : i + 9 ≤ L) (hL : L ≤ 4608) (h : LI O A M x m Ls z) (hk : 98 ≤ k) (hn : 9600 ≤ n) (hN : ∀ O A M Ls z k' n', LI O A M x m Ls z → k - 98 ≤ k' → n - 9600 ≤ n' → G 1431 [(0, .ref b), (1, .ref x), (2, .ref m), (3, .int (nI i))] [] M k' n') : G 489 [(0, .ref b), (1, .ref x), (2, .ref m), (3, .int (nI i))] [] M k n := by
  obtain ⟨hN1, hM1, hW⟩ := h
  have kx := hN1.ks.1
  have km := hM1.1.1
  have c1 : (nI (i + 1)).toNatClampNeg = i + 1 := nI_clamp (by omega)
  have v1 : vp_in (nI (i + 1)) L := vp_in_nI (by omega) (by omega)
  refine e_gs hG [(498, [0, 1, 2, 3])] 120 ?_
  simp only [e_wps_s, xs_ia, xs_al, xs_a, xs_b, xs_c, Option.getD_some, Option.isSome_some, Option.isSome_none, xis0, xis1, xis2, xis3, xis4, e_ks, lk_k, lk_c, List.lookup_nil, gt_c, vi_i, k1_n, k1_c, k2_n, k2_c, ar_n, ar_c, pk_n, pk_c, rm_0, rm_1, rm_2, rm_3, rm_4, rm_5, rc_9, rcs, fvs, rf_s, rf_n, isI_i, isL_l, isR_r, isR_n, isR_q, ct_i, ct_l, ct_r, ct_n, ct_q, tFs, tCs, tKs, tJs, tSs, e_nf, lgs, ↓reduceIte, true_and, and_true, false_and, and_false, or_true, true_or, false_or, or_false, Nat.reduceAdd, Nat.reduceEqDiff, Nat.reduceDiv, Nat.reduceLT, Nat.reduceLeDiff, Nat.zero_add, reduceCtorEq, Bool.false_eq_true, Option.toList_some, Option.toList_none, List.cons_append, List.nil_append, not_true_eq_false, not_false_eq_true, Nat.sub_zero, dsL_law_5, jsL_law_0, jsL_law_1, xcL_law, kx, c1, v1, nI_1, nIks]
  refine ⟨O, Ls, _, _, _, m, hN1, km, hW.w1, by omega, by omega, fun O2 M2 hN2 hF => ?_⟩
  have hM2 := hM1.out hF
  have km2 := hM2.1.1
  refine e_gs hG [(507, [0, 1, 2, 3])] 120 ?_
  simp only [e_wps_s, xs_ia, xs_al, xs_a, xs_b, xs_c, Option.getD_some, Option.isSome_some, Option.isSome_none, xis0, xis1, xis2, xis3, xis4, e_ks, lk_k, lk_c, List.lookup_nil, gt_c, vi_i, k1_n, k1_c, k2_n, k2_c, ar_n, ar_c, pk_n, pk_c, rm_0, rm_1, rm_2, rm_3, rm_4, rm_5, rc_9, rcs, fvs, rf_s, rf_n, isI_i, isL_l, isR_r, isR_n, isR_q, ct_i, ct_l, ct_r, ct_n, ct_q, tFs, tCs, tKs, tJs, tSs, e_nf, lgs, ↓reduceIte, true_and, and_true, false_and, and_false, or_true, true_or, false_or, or_false, Nat.reduceAdd, Nat.reduceEqDiff, Nat.reduceDiv, Nat.reduceLT, Nat.reduceLeDiff, Nat.zero_add, reduceCtorEq, Bool.false_eq_true, Option.toList_some, Option.toList_none, List.cons_append, List.nil_append, not_true_eq_false, not_false_eq_true, Nat.sub_zero, dsL_law_5, jsL_law_0, jsL_law_1, xcL_law, km2, c1, v1, nI_1, nIks]
  refine ⟨A, O2, Ls, z, hM2, fun S hS _ => (mrg_len (hW S hS)).2, fun U hU hFU => ?_⟩
  rw [mrg_eq hW] at hU ⊢
  refine e_gs hG [(1431, [0, 1, 2, 3])] 120 ?_
  simp only [e_wps_s, xs_ia, xs_al, xs_a, xs_b, xs_c, Option.getD_some, Option.isSome_some, Option.isSome_none, xis0, xis1, xis2, xis3, xis4, e_ks, lk_k, lk_c, List.lookup_nil, gt_c, vi_i, k1_n, k1_c, k2_n, k2_c, ar_n, ar_c, pk_n, pk_c, rm_0, rm_1, rm_2, rm_3, rm_4, rm_5, rc_9, rcs, fvs, rf_s, rf_n, isI_i, isL_l, isR_r, isR_n, isR_q, ct_i, ct_l, ct_r, ct_n, ct_q, tFs, tCs, tKs, tJs, tSs, e_nf, lgs, ↓reduceIte, true_and, and_true, false_and, and_false, or_true, true_or, false_or, or_false, Nat.reduceAdd, Nat.reduceEqDiff, Nat.reduceDiv, Nat.reduceLT, Nat.reduceLeDiff, Nat.zero_add, reduceCtorEq, Bool.false_eq_true, Option.toList_some, Option.toList_none, List.cons_append, List.nil_append, not_true_eq_false, not_false_eq_true, Nat.sub_zero, dsL_law_5, jsL_law_0, jsL_law_1, xcL_law, nI_1]
  exact hN _ _ _ _ _ _ _ ⟨hN2.ref hFU km2, hU, hW.mrg0 _⟩ (by omega) (by omega)
set_option maxRecDepth 20000 in
theorem lc_thin {Q : QT} {G : GT} {b L : Nat} {xs : Nat → Int32} {O : GH} {A : Nat → Nat} {M : HM} {x m i k n : Nat} {Ls : List SER} {z : Nat × Nat × Nat} (hG : e_cls b L xs 8 4 4 false cL_law csL_law Q G) (hi : i + 9 ≤ L) (hL : L ≤ 4608) (h : LI O A M x m Ls z) (hk : 98 ≤ k) (hn : 9600 ≤ n) (hN : ∀ O A M Ls z k' n', LI O A M x m Ls z → k - 98 ≤ k' → n - 9600 ≤ n' → G 1431 [(0, .ref b), (1, .ref x), (2, .ref m), (3, .int (nI i))] [] M k' n') : G 512 [(0, .ref b), (1, .ref x), (2, .ref m), (3, .int (nI i))] [] M k n := by
  obtain ⟨hN1, hM1, hW⟩ := h
  have kx := hN1.ks.1
  have km := hM1.1.1
  have c1 : (nI (i + 1)).toNatClampNeg = i + 1 := nI_clamp (by omega)
  have v1 : vp_in (nI (i + 1)) L := vp_in_nI (by omega) (by omega)
  have c2 : (nI (i + 2)).toNatClampNeg = i + 2 := nI_clamp (by omega)
  have v2 : vp_in (nI (i + 2)) L := vp_in_nI (by omega) (by omega)
  have c3 : (nI (i + 3)).toNatClampNeg = i + 3 := nI_clamp (by omega)
  have v3 : vp_in (nI (i + 3)) L := vp_in_nI (by omega) (by omega)
  refine e_gs hG [(531, [0, 1, 2, 3])] 120 ?_
  simp only [e_wps_s, xs_ia, xs_al, xs_a, xs_b, xs_c, Option.getD_some, Option.isSome_some, Option.isSome_none, xis0, xis1, xis2, xis3, xis4, e_ks, lk_k, lk_c, List.lookup_nil, gt_c, vi_i, k1_n, k1_c, k2_n, k2_c, ar_n, ar_c, pk_n, pk_c, rm_0, rm_1, rm_2, rm_3, rm_4, rm_5, rc_9, rcs, fvs, rf_s, rf_n, isI_i, isL_l, isR_r, isR_n, isR_q, ct_i, ct_l, ct_r, ct_n, ct_q, tFs, tCs, tKs, tJs, tSs, e_nf, lgs, ↓reduceIte, true_and, and_true, false_and, and_false, or_true, true_or, false_or, or_false, Nat.reduceAdd, Nat.reduceEqDiff, Nat.reduceDiv, Nat.reduceLT, Nat.reduceLeDiff, Nat.zero_add, reduceCtorEq, Bool.false_eq_true, Option.toList_some, Option.toList_none, List.cons_append, List.nil_append, not_true_eq_false, not_false_eq_true, Nat.sub_zero, dsL_law_5, jsL_law_0, jsL_law_1, xcL_law, kx, c1, v1, c2, v2, c3, v3, nI_1, nIks]
  refine ⟨O, Ls, _, _, _, m, hN1, km, hW.w1, th_pr hW _ _ _, by omega, by omega, fun O2 M2 hN2 hF => ?_⟩
  have hM2 := hM1.out hF
  have km2 := hM2.1.1
  refine e_gs hG [(550, [0, 1, 2, 3])] 120 ?_
  simp only [e_wps_s, xs_ia, xs_al, xs_a, xs_b, xs_c, Option.getD_some, Option.isSome_some, Option.isSome_none, xis0, xis1, xis2, xis3, xis4, e_ks, lk_k, lk_c, List.lookup_nil, gt_c, vi_i, k1_n, k1_c, k2_n, k2_c, ar_n, ar_c, pk_n, pk_c, rm_0, rm_1, rm_2, rm_3, rm_4, rm_5, rc_9, rcs, fvs, rf_s, rf_n, isI_i, isL_l, isR_r, isR_n, isR_q, ct_i, ct_l, ct_r, ct_n, ct_q, tFs, tCs, tKs, tJs, tSs, e_nf, lgs, ↓reduceIte, true_and, and_true, false_and, and_false, or_true, true_or, false_or, or_false, Nat.reduceAdd, Nat.reduceEqDiff, Nat.reduceDiv, Nat.reduceLT, Nat.reduceLeDiff, Nat.zero_add, reduceCtorEq, Bool.false_eq_true, Option.toList_some, Option.toList_none, List.cons_append, List.nil_append, not_true_eq_false, not_false_eq_true, Nat.sub_zero, dsL_law_5, jsL_law_0, jsL_law_1, xcL_law, km2, c1, v1, c2, v2, c3, v3, nI_1, nIks]
  refine ⟨A, O2, Ls, z, hM2, fun U hU hFU => ?_⟩
  rw [thn_eq hW] at hU ⊢
  refine e_gs hG [(1431, [0, 1, 2, 3])] 120 ?_
  simp only [e_wps_s, xs_ia, xs_al, xs_a, xs_b, xs_c, Option.getD_some, Option.isSome_some, Option.isSome_none, xis0, xis1, xis2, xis3, xis4, e_ks, lk_k, lk_c, List.lookup_nil, gt_c, vi_i, k1_n, k1_c, k2_n, k2_c, ar_n, ar_c, pk_n, pk_c, rm_0, rm_1, rm_2, rm_3, rm_4, rm_5, rc_9, rcs, fvs, rf_s, rf_n, isI_i, isL_l, isR_r, isR_n, isR_q, ct_i, ct_l, ct_r, ct_n, ct_q, tFs, tCs, tKs, tJs, tSs, e_nf, lgs, ↓reduceIte, true_and, and_true, false_and, and_false, or_true, true_or, false_or, or_false, Nat.reduceAdd, Nat.reduceEqDiff, Nat.reduceDiv, Nat.reduceLT, Nat.reduceLeDiff, Nat.zero_add, reduceCtorEq, Bool.false_eq_true, Option.toList_some, Option.toList_none, List.cons_append, List.nil_append, not_true_eq_false, not_false_eq_true, Nat.sub_zero, dsL_law_6, jsL_law_0, jsL_law_1, xcL_law, nI_1]
  exact hN _ _ _ _ _ _ _ ⟨hN2.ref hFU km2, hU, hW.thn0 _ _ _⟩ (by omega) (by omega)
set_option maxRecDepth 20000 in
theorem lc_drop {Q : QT} {G : GT} {b L : Nat} {xs : Nat → Int32} {O : GH} {A : Nat → Nat} {M : HM} {x m i k n : Nat} {Ls : List SER} {z : Nat × Nat × Nat} (hG : e_cls b L xs 8 4 4 false cL_law csL_law Q G) (hi : i + 9 ≤ L) (hL : L ≤ 4608) (h : LI O A M x m Ls z) (hk : 98 ≤ k) (hn : 9600 ≤ n) (hN : ∀ O A M Ls z k' n', LI O A M x m Ls z → k - 98 ≤ k' → n - 9600 ≤ n' → G 1431 [(0, .ref b), (1, .ref x), (2, .ref m), (3, .int (nI i))] [] M k' n') : G 555 [(0, .ref b), (1, .ref x), (2, .ref m), (3, .int (nI i))] [] M k n := by
  obtain ⟨hN1, hM1, hW⟩ := h
  have kx := hN1.ks.1
  have km := hM1.1.1
  have c1 : (nI (i + 1)).toNatClampNeg = i + 1 := nI_clamp (by omega)
  have v1 : vp_in (nI (i + 1)) L := vp_in_nI (by omega) (by omega)
  have c2 : (nI (i + 2)).toNatClampNeg = i + 2 := nI_clamp (by omega)
  have v2 : vp_in (nI (i + 2)) L := vp_in_nI (by omega) (by omega)
  refine e_gs hG [(569, [0, 1, 2, 3])] 120 ?_
  simp only [e_wps_s, xs_ia, xs_al, xs_a, xs_b, xs_c, Option.getD_some, Option.isSome_some, Option.isSome_none, xis0, xis1, xis2, xis3, xis4, e_ks, lk_k, lk_c, List.lookup_nil, gt_c, vi_i, k1_n, k1_c, k2_n, k2_c, ar_n, ar_c, pk_n, pk_c, rm_0, rm_1, rm_2, rm_3, rm_4, rm_5, rc_9, rcs, fvs, rf_s, rf_n, isI_i, isL_l, isR_r, isR_n, isR_q, ct_i, ct_l, ct_r, ct_n, ct_q, tFs, tCs, tKs, tJs, tSs, e_nf, lgs, ↓reduceIte, true_and, and_true, false_and, and_false, or_true, true_or, false_or, or_false, Nat.reduceAdd, Nat.reduceEqDiff, Nat.reduceDiv, Nat.reduceLT, Nat.reduceLeDiff, Nat.zero_add, reduceCtorEq, Bool.false_eq_true, Option.toList_some, Option.toList_none, List.cons_append, List.nil_append, not_true_eq_false, not_false_eq_true, Nat.sub_zero, dsL_law_6, jsL_law_0, jsL_law_1, xcL_law, kx, c1, v1, c2, v2, nI_1, nIks]
  refine ⟨O, Ls, _, _, _, m, hN1, km, hW.w1, fun O2 M2 hN2 hF => ?_⟩
  have hM2 := hM1.out hF
  have km2 := hM2.1.1
  refine e_gs hG [(583, [0, 1, 2, 3])] 120 ?_
  simp only [e_wps_s, xs_ia, xs_al, xs_a, xs_b, xs_c, Option.getD_some, Option.isSome_some, Option.isSome_none, xis0, xis1, xis2, xis3, xis4, e_ks, lk_k, lk_c, List.lookup_nil, gt_c, vi_i, k1_n, k1_c, k2_n, k2_c, ar_n, ar_c, pk_n, pk_c, rm_0, rm_1, rm_2, rm_3, rm_4, rm_5, rc_9, rcs, fvs, rf_s, rf_n, isI_i, isL_l, isR_r, isR_n, isR_q, ct_i, ct_l, ct_r, ct_n, ct_q, tFs, tCs, tKs, tJs, tSs, e_nf, lgs, ↓reduceIte, true_and, and_true, false_and, and_false, or_true, true_or, false_or, or_false, Nat.reduceAdd, Nat.reduceEqDiff, Nat.reduceDiv, Nat.reduceLT, Nat.reduceLeDiff, Nat.zero_add, reduceCtorEq, Bool.false_eq_true, Option.toList_some, Option.toList_none, List.cons_append, List.nil_append, not_true_eq_false, not_false_eq_true, Nat.sub_zero, dsL_law_6, jsL_law_0, jsL_law_1, xcL_law, km2, c1, v1, c2, v2, nI_1, nIks]
  refine ⟨A, O2, Ls, z, hM2, fun U hU hFU => ?_⟩
  rw [drp_eq hW] at hU ⊢
  refine e_gs hG [(1431, [0, 1, 2, 3])] 120 ?_
  simp only [e_wps_s, xs_ia, xs_al, xs_a, xs_b, xs_c, Option.getD_some, Option.isSome_some, Option.isSome_none, xis0, xis1, xis2, xis3, xis4, e_ks, lk_k, lk_c, List.lookup_nil, gt_c, vi_i, k1_n, k1_c, k2_n, k2_c, ar_n, ar_c, pk_n, pk_c, rm_0, rm_1, rm_2, rm_3, rm_4, rm_5, rc_9, rcs, fvs, rf_s, rf_n, isI_i, isL_l, isR_r, isR_n, isR_q, ct_i, ct_l, ct_r, ct_n, ct_q, tFs, tCs, tKs, tJs, tSs, e_nf, lgs, ↓reduceIte, true_and, and_true, false_and, and_false, or_true, true_or, false_or, or_false, Nat.reduceAdd, Nat.reduceEqDiff, Nat.reduceDiv, Nat.reduceLT, Nat.reduceLeDiff, Nat.zero_add, reduceCtorEq, Bool.false_eq_true, Option.toList_some, Option.toList_none, List.cons_append, List.nil_append, not_true_eq_false, not_false_eq_true, Nat.sub_zero, dsL_law_6, jsL_law_0, jsL_law_1, xcL_law, nI_1]
  exact hN _ _ _ _ _ _ _ ⟨hN2.ref hFU km2, hU, hW.drp0 _ _⟩ (by omega) (by omega)
set_option maxRecDepth 20000 in
theorem lc_block {Q : QT} {G : GT} {b L : Nat} {xs : Nat → Int32} {O : GH} {A : Nat → Nat} {M : HM} {x m i k n : Nat} {Ls : List SER} {z : Nat × Nat × Nat} (hG : e_cls b L xs 8 4 4 false cL_law csL_law Q G) (hi : i + 9 ≤ L) (hL : L ≤ 4608) (h : LI O A M x m Ls z) (hk : 98 ≤ k) (hn : 9600 ≤ n) (hN : ∀ O A M Ls z k' n', LI O A M x m Ls z → k - 98 ≤ k' → n - 9600 ≤ n' → G 1431 [(0, .ref b), (1, .ref x), (2, .ref m), (3, .int (nI i))] [] M k' n') : G 588 [(0, .ref b), (1, .ref x), (2, .ref m), (3, .int (nI i))] [] M k n := by
  obtain ⟨hN1, hM1, hW⟩ := h
  have kx := hN1.ks.1
  have km := hM1.1.1
  have c1 : (nI (i + 1)).toNatClampNeg = i + 1 := nI_clamp (by omega)
  have v1 : vp_in (nI (i + 1)) L := vp_in_nI (by omega) (by omega)
  have c2 : (nI (i + 2)).toNatClampNeg = i + 2 := nI_clamp (by omega)
  have v2 : vp_in (nI (i + 2)) L := vp_in_nI (by omega) (by omega)
  have c3 : (nI (i + 3)).toNatClampNeg = i + 3 := nI_clamp (by omega)
  have v3 : vp_in (nI (i + 3)) L := vp_in_nI (by omega) (by omega)
  refine e_gs hG [(607, [0, 1, 2, 3])] 120 ?_
  simp only [e_wps_s, xs_ia, xs_al, xs_a, xs_b, xs_c, Option.getD_some, Option.isSome_some, Option.isSome_none, xis0, xis1, xis2, xis3, xis4, e_ks, lk_k, lk_c, List.lookup_nil, gt_c, vi_i, k1_n, k1_c, k2_n, k2_c, ar_n, ar_c, pk_n, pk_c, rm_0, rm_1, rm_2, rm_3, rm_4, rm_5, rc_9, rcs, fvs, rf_s, rf_n, isI_i, isL_l, isR_r, isR_n, isR_q, ct_i, ct_l, ct_r, ct_n, ct_q, tFs, tCs, tKs, tJs, tSs, e_nf, lgs, ↓reduceIte, true_and, and_true, false_and, and_false, or_true, true_or, false_or, or_false, Nat.reduceAdd, Nat.reduceEqDiff, Nat.reduceDiv, Nat.reduceLT, Nat.reduceLeDiff, Nat.zero_add, reduceCtorEq, Bool.false_eq_true, Option.toList_some, Option.toList_none, List.cons_append, List.nil_append, not_true_eq_false, not_false_eq_true, Nat.sub_zero, dsL_law_6, jsL_law_0, jsL_law_1, xcL_law, kx, c1, v1, c2, v2, c3, v3, nI_1, nIks]
  refine ⟨O, Ls, _, _, _, hN1, hW.nb, ?_⟩
  have hN2 := hN1
  have hM2 := hM1
  have km2 := km
  refine e_gs hG [(626, [0, 1, 2, 3])] 120 ?_
  simp only [e_wps_s, xs_ia, xs_al, xs_a, xs_b, xs_c, Option.getD_some, Option.isSome_some, Option.isSome_none, xis0, xis1, xis2, xis3, xis4, e_ks, lk_k, lk_c, List.lookup_nil, gt_c, vi_i, k1_n, k1_c, k2_n, k2_c, ar_n, ar_c, pk_n, pk_c, rm_0, rm_1, rm_2, rm_3, rm_4, rm_5, rc_9, rcs, fvs, rf_s, rf_n, isI_i, isL_l, isR_r, isR_n, isR_q, ct_i, ct_l, ct_r, ct_n, ct_q, tFs, tCs, tKs, tJs, tSs, e_nf, lgs, ↓reduceIte, true_and, and_true, false_and, and_false, or_true, true_or, false_or, or_false, Nat.reduceAdd, Nat.reduceEqDiff, Nat.reduceDiv, Nat.reduceLT, Nat.reduceLeDiff, Nat.zero_add, reduceCtorEq, Bool.false_eq_true, Option.toList_some, Option.toList_none, List.cons_append, List.nil_append, not_true_eq_false, not_false_eq_true, Nat.sub_zero, dsL_law_6, dsL_law_7, jsL_law_0, jsL_law_1, xcL_law, km2, c1, v1, c2, v2, c3, v3, nI_1, nIks]
  refine ⟨A, O, Ls, z, hM2, hW.wt, fun U hU hFU => ?_⟩
  refine e_gs hG [(1431, [0, 1, 2, 3])] 120 ?_
  simp only [e_wps_s, xs_ia, xs_al, xs_a, xs_b, xs_c, Option.getD_some, Option.isSome_some, Option.isSome_none, xis0, xis1, xis2, xis3, xis4, e_ks, lk_k, lk_c, List.lookup_nil, gt_c, vi_i, k1_n, k1_c, k2_n, k2_c, ar_n, ar_c, pk_n, pk_c, rm_0, rm_1, rm_2, rm_3, rm_4, rm_5, rc_9, rcs, fvs, rf_s, rf_n, isI_i, isL_l, isR_r, isR_n, isR_q, ct_i, ct_l, ct_r, ct_n, ct_q, tFs, tCs, tKs, tJs, tSs, e_nf, lgs, ↓reduceIte, true_and, and_true, false_and, and_false, or_true, true_or, false_or, or_false, Nat.reduceAdd, Nat.reduceEqDiff, Nat.reduceDiv, Nat.reduceLT, Nat.reduceLeDiff, Nat.zero_add, reduceCtorEq, Bool.false_eq_true, Option.toList_some, Option.toList_none, List.cons_append, List.nil_append, not_true_eq_false, not_false_eq_true, Nat.sub_zero, dsL_law_7, jsL_law_0, jsL_law_1, xcL_law, nI_1]
  exact hN _ _ _ _ _ _ _ ⟨hN2.ref hFU km2, hU, hW⟩ (by omega) (by omega)
set_option maxRecDepth 20000 in
theorem lc_head {Q : QT} {G : GT} {b L : Nat} {xs : Nat → Int32} {O : GH} {A : Nat → Nat} {M : HM} {x m i k n : Nat} {Ls : List SER} {z : Nat × Nat × Nat} (hG : e_cls b L xs 8 4 4 false cL_law csL_law Q G) (hi : i + 9 ≤ L) (hL : L ≤ 4608) (h : LI O A M x m Ls z) (hk : 98 ≤ k) (hn : 9600 ≤ n) (hN : ∀ O A M Ls z k' n', LI O A M x m Ls z → k - 98 ≤ k' → n - 9600 ≤ n' → G 1431 [(0, .ref b), (1, .ref x), (2, .ref m), (3, .int (nI i))] [] M k' n') : G 631 [(0, .ref b), (1, .ref x), (2, .ref m), (3, .int (nI i))] [] M k n := by
  obtain ⟨hN1, hM1, hW⟩ := h
  have kx := hN1.ks.1
  have km := hM1.1.1
  have c1 : (nI (i + 1)).toNatClampNeg = i + 1 := nI_clamp (by omega)
  have v1 : vp_in (nI (i + 1)) L := vp_in_nI (by omega) (by omega)
  have c2 : (nI (i + 2)).toNatClampNeg = i + 2 := nI_clamp (by omega)
  have v2 : vp_in (nI (i + 2)) L := vp_in_nI (by omega) (by omega)
  have c3 : (nI (i + 3)).toNatClampNeg = i + 3 := nI_clamp (by omega)
  have v3 : vp_in (nI (i + 3)) L := vp_in_nI (by omega) (by omega)
  refine e_gs hG [(650, [0, 1, 2, 3])] 120 ?_
  simp only [e_wps_s, xs_ia, xs_al, xs_a, xs_b, xs_c, Option.getD_some, Option.isSome_some, Option.isSome_none, xis0, xis1, xis2, xis3, xis4, e_ks, lk_k, lk_c, List.lookup_nil, gt_c, vi_i, k1_n, k1_c, k2_n, k2_c, ar_n, ar_c, pk_n, pk_c, rm_0, rm_1, rm_2, rm_3, rm_4, rm_5, rc_9, rcs, fvs, rf_s, rf_n, isI_i, isL_l, isR_r, isR_n, isR_q, ct_i, ct_l, ct_r, ct_n, ct_q, tFs, tCs, tKs, tJs, tSs, e_nf, lgs, ↓reduceIte, true_and, and_true, false_and, and_false, or_true, true_or, false_or, or_false, Nat.reduceAdd, Nat.reduceEqDiff, Nat.reduceDiv, Nat.reduceLT, Nat.reduceLeDiff, Nat.zero_add, reduceCtorEq, Bool.false_eq_true, Option.toList_some, Option.toList_none, List.cons_append, List.nil_append, not_true_eq_false, not_false_eq_true, Nat.sub_zero, dsL_law_7, jsL_law_0, jsL_law_1, xcL_law, kx, c1, v1, c2, v2, c3, v3, nI_1, nIks]
  refine ⟨O, Ls, _, _, _, hN1, hW.nb, ?_⟩
  have hN2 := hN1
  have hM2 := hM1
  have km2 := km
  refine e_gs hG [(669, [0, 1, 2, 3])] 120 ?_
  simp only [e_wps_s, xs_ia, xs_al, xs_a, xs_b, xs_c, Option.getD_some, Option.isSome_some, Option.isSome_none, xis0, xis1, xis2, xis3, xis4, e_ks, lk_k, lk_c, List.lookup_nil, gt_c, vi_i, k1_n, k1_c, k2_n, k2_c, ar_n, ar_c, pk_n, pk_c, rm_0, rm_1, rm_2, rm_3, rm_4, rm_5, rc_9, rcs, fvs, rf_s, rf_n, isI_i, isL_l, isR_r, isR_n, isR_q, ct_i, ct_l, ct_r, ct_n, ct_q, tFs, tCs, tKs, tJs, tSs, e_nf, lgs, ↓reduceIte, true_and, and_true, false_and, and_false, or_true, true_or, false_or, or_false, Nat.reduceAdd, Nat.reduceEqDiff, Nat.reduceDiv, Nat.reduceLT, Nat.reduceLeDiff, Nat.zero_add, reduceCtorEq, Bool.false_eq_true, Option.toList_some, Option.toList_none, List.cons_append, List.nil_append, not_true_eq_false, not_false_eq_true, Nat.sub_zero, dsL_law_7, jsL_law_0, jsL_law_1, xcL_law, km2, c1, v1, c2, v2, c3, v3, nI_1, nIks]
  refine ⟨A, O, Ls, z, hM2, ?_⟩
  refine e_gs hG [(1431, [0, 1, 2, 3])] 120 ?_
  simp only [e_wps_s, xs_ia, xs_al, xs_a, xs_b, xs_c, Option.getD_some, Option.isSome_some, Option.isSome_none, xis0, xis1, xis2, xis3, xis4, e_ks, lk_k, lk_c, List.lookup_nil, gt_c, vi_i, k1_n, k1_c, k2_n, k2_c, ar_n, ar_c, pk_n, pk_c, rm_0, rm_1, rm_2, rm_3, rm_4, rm_5, rc_9, rcs, fvs, rf_s, rf_n, isI_i, isL_l, isR_r, isR_n, isR_q, ct_i, ct_l, ct_r, ct_n, ct_q, tFs, tCs, tKs, tJs, tSs, e_nf, lgs, ↓reduceIte, true_and, and_true, false_and, and_false, or_true, true_or, false_or, or_false, Nat.reduceAdd, Nat.reduceEqDiff, Nat.reduceDiv, Nat.reduceLT, Nat.reduceLeDiff, Nat.zero_add, reduceCtorEq, Bool.false_eq_true, Option.toList_some, Option.toList_none, List.cons_append, List.nil_append, not_true_eq_false, not_false_eq_true, Nat.sub_zero, dsL_law_7, jsL_law_0, jsL_law_1, xcL_law, nI_1]
  exact hN _ _ _ _ _ _ _ ⟨hN2, hM2, hW⟩ (by omega) (by omega)
set_option maxRecDepth 20000 in
theorem lc_at {Q : QT} {G : GT} {b L : Nat} {xs : Nat → Int32} {O : GH} {A : Nat → Nat} {M : HM} {x m i k n : Nat} {Ls : List SER} {z : Nat × Nat × Nat} (hG : e_cls b L xs 8 4 4 false cL_law csL_law Q G) (hi : i + 9 ≤ L) (hL : L ≤ 4608) (h : LI O A M x m Ls z) (hk : 98 ≤ k) (hn : 9600 ≤ n) (hN : ∀ O A M Ls z k' n', LI O A M x m Ls z → k - 98 ≤ k' → n - 9600 ≤ n' → G 1431 [(0, .ref b), (1, .ref x), (2, .ref m), (3, .int (nI i))] [] M k' n') : G 675 [(0, .ref b), (1, .ref x), (2, .ref m), (3, .int (nI i))] [] M k n := by
  obtain ⟨hN1, hM1, hW⟩ := h
  have kx := hN1.ks.1
  have km := hM1.1.1
  have c1 : (nI (i + 1)).toNatClampNeg = i + 1 := nI_clamp (by omega)
  have v1 : vp_in (nI (i + 1)) L := vp_in_nI (by omega) (by omega)
  have c2 : (nI (i + 2)).toNatClampNeg = i + 2 := nI_clamp (by omega)
  have v2 : vp_in (nI (i + 2)) L := vp_in_nI (by omega) (by omega)
  have c3 : (nI (i + 3)).toNatClampNeg = i + 3 := nI_clamp (by omega)
  have v3 : vp_in (nI (i + 3)) L := vp_in_nI (by omega) (by omega)
  refine e_gs hG [(694, [0, 1, 2, 3])] 120 ?_
  simp only [e_wps_s, xs_ia, xs_al, xs_a, xs_b, xs_c, Option.getD_some, Option.isSome_some, Option.isSome_none, xis0, xis1, xis2, xis3, xis4, e_ks, lk_k, lk_c, List.lookup_nil, gt_c, vi_i, k1_n, k1_c, k2_n, k2_c, ar_n, ar_c, pk_n, pk_c, rm_0, rm_1, rm_2, rm_3, rm_4, rm_5, rc_9, rcs, fvs, rf_s, rf_n, isI_i, isL_l, isR_r, isR_n, isR_q, ct_i, ct_l, ct_r, ct_n, ct_q, tFs, tCs, tKs, tJs, tSs, e_nf, lgs, ↓reduceIte, true_and, and_true, false_and, and_false, or_true, true_or, false_or, or_false, Nat.reduceAdd, Nat.reduceEqDiff, Nat.reduceDiv, Nat.reduceLT, Nat.reduceLeDiff, Nat.zero_add, reduceCtorEq, Bool.false_eq_true, Option.toList_some, Option.toList_none, List.cons_append, List.nil_append, not_true_eq_false, not_false_eq_true, Nat.sub_zero, dsL_law_7, dsL_law_8, jsL_law_0, jsL_law_1, xcL_law, kx, c1, v1, c2, v2, c3, v3, nI_1, nIks]
  refine ⟨O, Ls, _, _, _, hN1, hW.nb, ?_⟩
  have hN2 := hN1
  have hM2 := hM1
  have km2 := km
  refine e_gs hG [(713, [0, 1, 2, 3])] 120 ?_
  simp only [e_wps_s, xs_ia, xs_al, xs_a, xs_b, xs_c, Option.getD_some, Option.isSome_some, Option.isSome_none, xis0, xis1, xis2, xis3, xis4, e_ks, lk_k, lk_c, List.lookup_nil, gt_c, vi_i, k1_n, k1_c, k2_n, k2_c, ar_n, ar_c, pk_n, pk_c, rm_0, rm_1, rm_2, rm_3, rm_4, rm_5, rc_9, rcs, fvs, rf_s, rf_n, isI_i, isL_l, isR_r, isR_n, isR_q, ct_i, ct_l, ct_r, ct_n, ct_q, tFs, tCs, tKs, tJs, tSs, e_nf, lgs, ↓reduceIte, true_and, and_true, false_and, and_false, or_true, true_or, false_or, or_false, Nat.reduceAdd, Nat.reduceEqDiff, Nat.reduceDiv, Nat.reduceLT, Nat.reduceLeDiff, Nat.zero_add, reduceCtorEq, Bool.false_eq_true, Option.toList_some, Option.toList_none, List.cons_append, List.nil_append, not_true_eq_false, not_false_eq_true, Nat.sub_zero, dsL_law_8, jsL_law_0, jsL_law_1, xcL_law, km2, c1, v1, c2, v2, c3, v3, nI_1, nIks]
  refine ⟨A, O, Ls, z, hM2, hW.wt, fun U hU hFU => ?_⟩
  refine e_gs hG [(1431, [0, 1, 2, 3])] 120 ?_
  simp only [e_wps_s, xs_ia, xs_al, xs_a, xs_b, xs_c, Option.getD_some, Option.isSome_some, Option.isSome_none, xis0, xis1, xis2, xis3, xis4, e_ks, lk_k, lk_c, List.lookup_nil, gt_c, vi_i, k1_n, k1_c, k2_n, k2_c, ar_n, ar_c, pk_n, pk_c, rm_0, rm_1, rm_2, rm_3, rm_4, rm_5, rc_9, rcs, fvs, rf_s, rf_n, isI_i, isL_l, isR_r, isR_n, isR_q, ct_i, ct_l, ct_r, ct_n, ct_q, tFs, tCs, tKs, tJs, tSs, e_nf, lgs, ↓reduceIte, true_and, and_true, false_and, and_false, or_true, true_or, false_or, or_false, Nat.reduceAdd, Nat.reduceEqDiff, Nat.reduceDiv, Nat.reduceLT, Nat.reduceLeDiff, Nat.zero_add, reduceCtorEq, Bool.false_eq_true, Option.toList_some, Option.toList_none, List.cons_append, List.nil_append, not_true_eq_false, not_false_eq_true, Nat.sub_zero, dsL_law_8, jsL_law_0, jsL_law_1, xcL_law, nI_1]
  exact hN _ _ _ _ _ _ _ ⟨hN2.ref hFU km2, hU, hW⟩ (by omega) (by omega)
set_option maxRecDepth 20000 in
theorem lc_tear {Q : QT} {G : GT} {b L : Nat} {xs : Nat → Int32} {O : GH} {A : Nat → Nat} {M : HM} {x m i k n : Nat} {Ls : List SER} {z : Nat × Nat × Nat} (hG : e_cls b L xs 8 4 4 false cL_law csL_law Q G) (hi : i + 9 ≤ L) (hL : L ≤ 4608) (h : LI O A M x m Ls z) (hk : 98 ≤ k) (hn : 9600 ≤ n) (hN : ∀ O A M Ls z k' n', LI O A M x m Ls z → k - 98 ≤ k' → n - 9600 ≤ n' → G 1431 [(0, .ref b), (1, .ref x), (2, .ref m), (3, .int (nI i))] [] M k' n') : G 718 [(0, .ref b), (1, .ref x), (2, .ref m), (3, .int (nI i))] [] M k n := by
  obtain ⟨hN1, hM1, hW⟩ := h
  have kx := hN1.ks.1
  have km := hM1.1.1
  have c1 : (nI (i + 1)).toNatClampNeg = i + 1 := nI_clamp (by omega)
  have v1 : vp_in (nI (i + 1)) L := vp_in_nI (by omega) (by omega)
  have c2 : (nI (i + 2)).toNatClampNeg = i + 2 := nI_clamp (by omega)
  have v2 : vp_in (nI (i + 2)) L := vp_in_nI (by omega) (by omega)
  have c3 : (nI (i + 3)).toNatClampNeg = i + 3 := nI_clamp (by omega)
  have v3 : vp_in (nI (i + 3)) L := vp_in_nI (by omega) (by omega)
  have c4 : (nI (i + 4)).toNatClampNeg = i + 4 := nI_clamp (by omega)
  have v4 : vp_in (nI (i + 4)) L := vp_in_nI (by omega) (by omega)
  refine e_gs hG [(742, [0, 1, 2, 3])] 120 ?_
  simp only [e_wps_s, xs_ia, xs_al, xs_a, xs_b, xs_c, Option.getD_some, Option.isSome_some, Option.isSome_none, xis0, xis1, xis2, xis3, xis4, e_ks, lk_k, lk_c, List.lookup_nil, gt_c, vi_i, k1_n, k1_c, k2_n, k2_c, ar_n, ar_c, pk_n, pk_c, rm_0, rm_1, rm_2, rm_3, rm_4, rm_5, rc_9, rcs, fvs, rf_s, rf_n, isI_i, isL_l, isR_r, isR_n, isR_q, ct_i, ct_l, ct_r, ct_n, ct_q, tFs, tCs, tKs, tJs, tSs, e_nf, lgs, ↓reduceIte, true_and, and_true, false_and, and_false, or_true, true_or, false_or, or_false, Nat.reduceAdd, Nat.reduceEqDiff, Nat.reduceDiv, Nat.reduceLT, Nat.reduceLeDiff, Nat.zero_add, reduceCtorEq, Bool.false_eq_true, Option.toList_some, Option.toList_none, List.cons_append, List.nil_append, not_true_eq_false, not_false_eq_true, Nat.sub_zero, dsL_law_8, jsL_law_0, jsL_law_1, xcL_law, kx, c1, v1, c2, v2, c3, v3, c4, v4, nI_1, nIks]
  refine ⟨O, Ls, _, _, _, m, hN1, km, hW.w1, by omega, by omega, fun O2 M2 hN2 hF => ?_⟩
  have hM2 := hM1.out hF
  have km2 := hM2.1.1
  refine e_gs hG [(766, [0, 1, 2, 3])] 120 ?_
  simp only [e_wps_s, xs_ia, xs_al, xs_a, xs_b, xs_c, Option.getD_some, Option.isSome_some, Option.isSome_none, xis0, xis1, xis2, xis3, xis4, e_ks, lk_k, lk_c, List.lookup_nil, gt_c, vi_i, k1_n, k1_c, k2_n, k2_c, ar_n, ar_c, pk_n, pk_c, rm_0, rm_1, rm_2, rm_3, rm_4, rm_5, rc_9, rcs, fvs, rf_s, rf_n, isI_i, isL_l, isR_r, isR_n, isR_q, ct_i, ct_l, ct_r, ct_n, ct_q, tFs, tCs, tKs, tJs, tSs, e_nf, lgs, ↓reduceIte, true_and, and_true, false_and, and_false, or_true, true_or, false_or, or_false, Nat.reduceAdd, Nat.reduceEqDiff, Nat.reduceDiv, Nat.reduceLT, Nat.reduceLeDiff, Nat.zero_add, reduceCtorEq, Bool.false_eq_true, Option.toList_some, Option.toList_none, List.cons_append, List.nil_append, not_true_eq_false, not_false_eq_true, Nat.sub_zero, dsL_law_8, dsL_law_9, jsL_law_0, jsL_law_1, xcL_law, km2, c1, v1, c2, v2, c3, v3, c4, v4, nI_1, nIks]
  refine ⟨A, O2, Ls, z, hM2, hW.wt, fun U hU hFU => ?_⟩
  refine e_gs hG [(1431, [0, 1, 2, 3])] 120 ?_
  simp only [e_wps_s, xs_ia, xs_al, xs_a, xs_b, xs_c, Option.getD_some, Option.isSome_some, Option.isSome_none, xis0, xis1, xis2, xis3, xis4, e_ks, lk_k, lk_c, List.lookup_nil, gt_c, vi_i, k1_n, k1_c, k2_n, k2_c, ar_n, ar_c, pk_n, pk_c, rm_0, rm_1, rm_2, rm_3, rm_4, rm_5, rc_9, rcs, fvs, rf_s, rf_n, isI_i, isL_l, isR_r, isR_n, isR_q, ct_i, ct_l, ct_r, ct_n, ct_q, tFs, tCs, tKs, tJs, tSs, e_nf, lgs, ↓reduceIte, true_and, and_true, false_and, and_false, or_true, true_or, false_or, or_false, Nat.reduceAdd, Nat.reduceEqDiff, Nat.reduceDiv, Nat.reduceLT, Nat.reduceLeDiff, Nat.zero_add, reduceCtorEq, Bool.false_eq_true, Option.toList_some, Option.toList_none, List.cons_append, List.nil_append, not_true_eq_false, not_false_eq_true, Nat.sub_zero, dsL_law_9, jsL_law_0, jsL_law_1, xcL_law, nI_1]
  exact hN _ _ _ _ _ _ _ ⟨hN2.ref hFU km2, hU, hW.ter0 _ _ _ _⟩ (by omega) (by omega)
set_option maxRecDepth 20000 in
theorem lc_cost {Q : QT} {G : GT} {b L : Nat} {xs : Nat → Int32} {O : GH} {A : Nat → Nat} {M : HM} {x m i k n : Nat} {Ls : List SER} {z : Nat × Nat × Nat} (hG : e_cls b L xs 8 4 4 false cL_law csL_law Q G) (hi : i + 9 ≤ L) (hL : L ≤ 4608) (h : LI O A M x m Ls z) (hk : 98 ≤ k) (hn : 9600 ≤ n) (hN : ∀ O A M Ls z k' n', LI O A M x m Ls z → k - 98 ≤ k' → n - 9600 ≤ n' → G 1431 [(0, .ref b), (1, .ref x), (2, .ref m), (3, .int (nI i))] [] M k' n') : G 771 [(0, .ref b), (1, .ref x), (2, .ref m), (3, .int (nI i))] [] M k n := by
  obtain ⟨hN1, hM1, hW⟩ := h
  have kx := hN1.ks.1
  have km := hM1.1.1
  have c1 : (nI (i + 1)).toNatClampNeg = i + 1 := nI_clamp (by omega)
  have v1 : vp_in (nI (i + 1)) L := vp_in_nI (by omega) (by omega)
  have c2 : (nI (i + 2)).toNatClampNeg = i + 2 := nI_clamp (by omega)
  have v2 : vp_in (nI (i + 2)) L := vp_in_nI (by omega) (by omega)
  have c3 : (nI (i + 3)).toNatClampNeg = i + 3 := nI_clamp (by omega)
  have v3 : vp_in (nI (i + 3)) L := vp_in_nI (by omega) (by omega)
  refine e_gs hG [(790, [0, 1, 2, 3])] 120 ?_
  simp only [e_wps_s, xs_ia, xs_al, xs_a, xs_b, xs_c, Option.getD_some, Option.isSome_some, Option.isSome_none, xis0, xis1, xis2, xis3, xis4, e_ks, lk_k, lk_c, List.lookup_nil, gt_c, vi_i, k1_n, k1_c, k2_n, k2_c, ar_n, ar_c, pk_n, pk_c, rm_0, rm_1, rm_2, rm_3, rm_4, rm_5, rc_9, rcs, fvs, rf_s, rf_n, isI_i, isL_l, isR_r, isR_n, isR_q, ct_i, ct_l, ct_r, ct_n, ct_q, tFs, tCs, tKs, tJs, tSs, e_nf, lgs, ↓reduceIte, true_and, and_true, false_and, and_false, or_true, true_or, false_or, or_false, Nat.reduceAdd, Nat.reduceEqDiff, Nat.reduceDiv, Nat.reduceLT, Nat.reduceLeDiff, Nat.zero_add, reduceCtorEq, Bool.false_eq_true, Option.toList_some, Option.toList_none, List.cons_append, List.nil_append, not_true_eq_false, not_false_eq_true, Nat.sub_zero, dsL_law_9, jsL_law_0, jsL_law_1, xcL_law, kx, c1, v1, c2, v2, c3, v3, nI_1, nIks]
  refine ⟨O, Ls, _, _, _, m, hN1, km, hW.w1, fun O2 M2 hN2 hF => ?_⟩
  have hM2 := hM1.out hF
  have km2 := hM2.1.1
  refine e_gs hG [(809, [0, 1, 2, 3])] 120 ?_
  simp only [e_wps_s, xs_ia, xs_al, xs_a, xs_b, xs_c, Option.getD_some, Option.isSome_some, Option.isSome_none, xis0, xis1, xis2, xis3, xis4, e_ks, lk_k, lk_c, List.lookup_nil, gt_c, vi_i, k1_n, k1_c, k2_n, k2_c, ar_n, ar_c, pk_n, pk_c, rm_0, rm_1, rm_2, rm_3, rm_4, rm_5, rc_9, rcs, fvs, rf_s, rf_n, isI_i, isL_l, isR_r, isR_n, isR_q, ct_i, ct_l, ct_r, ct_n, ct_q, tFs, tCs, tKs, tJs, tSs, e_nf, lgs, ↓reduceIte, true_and, and_true, false_and, and_false, or_true, true_or, false_or, or_false, Nat.reduceAdd, Nat.reduceEqDiff, Nat.reduceDiv, Nat.reduceLT, Nat.reduceLeDiff, Nat.zero_add, reduceCtorEq, Bool.false_eq_true, Option.toList_some, Option.toList_none, List.cons_append, List.nil_append, not_true_eq_false, not_false_eq_true, Nat.sub_zero, dsL_law_9, jsL_law_0, jsL_law_1, xcL_law, km2, c1, v1, c2, v2, c3, v3, nI_1, nIks]
  refine ⟨A, O2, Ls, z, hM2, hW.wt, fun U hU hFU => ?_⟩
  refine e_gs hG [(1431, [0, 1, 2, 3])] 120 ?_
  simp only [e_wps_s, xs_ia, xs_al, xs_a, xs_b, xs_c, Option.getD_some, Option.isSome_some, Option.isSome_none, xis0, xis1, xis2, xis3, xis4, e_ks, lk_k, lk_c, List.lookup_nil, gt_c, vi_i, k1_n, k1_c, k2_n, k2_c, ar_n, ar_c, pk_n, pk_c, rm_0, rm_1, rm_2, rm_3, rm_4, rm_5, rc_9, rcs, fvs, rf_s, rf_n, isI_i, isL_l, isR_r, isR_n, isR_q, ct_i, ct_l, ct_r, ct_n, ct_q, tFs, tCs, tKs, tJs, tSs, e_nf, lgs, ↓reduceIte, true_and, and_true, false_and, and_false, or_true, true_or, false_or, or_false, Nat.reduceAdd, Nat.reduceEqDiff, Nat.reduceDiv, Nat.reduceLT, Nat.reduceLeDiff, Nat.zero_add, reduceCtorEq, Bool.false_eq_true, Option.toList_some, Option.toList_none, List.cons_append, List.nil_append, not_true_eq_false, not_false_eq_true, Nat.sub_zero, dsL_law_9, jsL_law_0, jsL_law_1, xcL_law, nI_1]
  exact hN _ _ _ _ _ _ _ ⟨hN2.ref hFU km2, hU, hW⟩ (by omega) (by omega)
set_option maxRecDepth 20000 in
theorem lc_point {Q : QT} {G : GT} {b L : Nat} {xs : Nat → Int32} {O : GH} {A : Nat → Nat} {M : HM} {x m i k n : Nat} {Ls : List SER} {z : Nat × Nat × Nat} (hG : e_cls b L xs 8 4 4 false cL_law csL_law Q G) (hi : i + 9 ≤ L) (hL : L ≤ 4608) (h : LI O A M x m Ls z) (hk : 98 ≤ k) (hn : 9600 ≤ n) (hN : ∀ O A M Ls z k' n', LI O A M x m Ls z → k - 98 ≤ k' → n - 9600 ≤ n' → G 1431 [(0, .ref b), (1, .ref x), (2, .ref m), (3, .int (nI i))] [] M k' n') : G 814 [(0, .ref b), (1, .ref x), (2, .ref m), (3, .int (nI i))] [] M k n := by
  obtain ⟨hN1, hM1, hW⟩ := h
  have kx := hN1.ks.1
  have km := hM1.1.1
  have c1 : (nI (i + 1)).toNatClampNeg = i + 1 := nI_clamp (by omega)
  have v1 : vp_in (nI (i + 1)) L := vp_in_nI (by omega) (by omega)
  have c2 : (nI (i + 2)).toNatClampNeg = i + 2 := nI_clamp (by omega)
  have v2 : vp_in (nI (i + 2)) L := vp_in_nI (by omega) (by omega)
  have c3 : (nI (i + 3)).toNatClampNeg = i + 3 := nI_clamp (by omega)
  have v3 : vp_in (nI (i + 3)) L := vp_in_nI (by omega) (by omega)
  have c4 : (nI (i + 4)).toNatClampNeg = i + 4 := nI_clamp (by omega)
  have v4 : vp_in (nI (i + 4)) L := vp_in_nI (by omega) (by omega)
  refine e_gs hG [(838, [0, 1, 2, 3])] 120 ?_
  simp only [e_wps_s, xs_ia, xs_al, xs_a, xs_b, xs_c, Option.getD_some, Option.isSome_some, Option.isSome_none, xis0, xis1, xis2, xis3, xis4, e_ks, lk_k, lk_c, List.lookup_nil, gt_c, vi_i, k1_n, k1_c, k2_n, k2_c, ar_n, ar_c, pk_n, pk_c, rm_0, rm_1, rm_2, rm_3, rm_4, rm_5, rc_9, rcs, fvs, rf_s, rf_n, isI_i, isL_l, isR_r, isR_n, isR_q, ct_i, ct_l, ct_r, ct_n, ct_q, tFs, tCs, tKs, tJs, tSs, e_nf, lgs, ↓reduceIte, true_and, and_true, false_and, and_false, or_true, true_or, false_or, or_false, Nat.reduceAdd, Nat.reduceEqDiff, Nat.reduceDiv, Nat.reduceLT, Nat.reduceLeDiff, Nat.zero_add, reduceCtorEq, Bool.false_eq_true, Option.toList_some, Option.toList_none, List.cons_append, List.nil_append, not_true_eq_false, not_false_eq_true, Nat.sub_zero, dsL_law_9, dsL_law_10, jsL_law_0, jsL_law_1, xcL_law, kx, c1, v1, c2, v2, c3, v3, c4, v4, nI_1, nIks]
  refine ⟨O, Ls, _, _, _, m, hN1, km, hW.w1, fun O2 M2 hN2 hF => ?_⟩
  have hM2 := hM1.out hF
  have km2 := hM2.1.1
  refine e_gs hG [(862, [0, 1, 2, 3])] 120 ?_
  simp only [e_wps_s, xs_ia, xs_al, xs_a, xs_b, xs_c, Option.getD_some, Option.isSome_some, Option.isSome_none, xis0, xis1, xis2, xis3, xis4, e_ks, lk_k, lk_c, List.lookup_nil, gt_c, vi_i, k1_n, k1_c, k2_n, k2_c, ar_n, ar_c, pk_n, pk_c, rm_0, rm_1, rm_2, rm_3, rm_4, rm_5, rc_9, rcs, fvs, rf_s, rf_n, isI_i, isL_l, isR_r, isR_n, isR_q, ct_i, ct_l, ct_r, ct_n, ct_q, tFs, tCs, tKs, tJs, tSs, e_nf, lgs, ↓reduceIte, true_and, and_true, false_and, and_false, or_true, true_or, false_or, or_false, Nat.reduceAdd, Nat.reduceEqDiff, Nat.reduceDiv, Nat.reduceLT, Nat.reduceLeDiff, Nat.zero_add, reduceCtorEq, Bool.false_eq_true, Option.toList_some, Option.toList_none, List.cons_append, List.nil_append, not_true_eq_false, not_false_eq_true, Nat.sub_zero, dsL_law_10, jsL_law_0, jsL_law_1, xcL_law, km2, c1, v1, c2, v2, c3, v3, c4, v4, nI_1, nIks]
  refine ⟨A, O2, Ls, z, hM2, ?_⟩
  refine e_gs hG [(1431, [0, 1, 2, 3])] 120 ?_
  simp only [e_wps_s, xs_ia, xs_al, xs_a, xs_b, xs_c, Option.getD_some, Option.isSome_some, Option.isSome_none, xis0, xis1, xis2, xis3, xis4, e_ks, lk_k, lk_c, List.lookup_nil, gt_c, vi_i, k1_n, k1_c, k2_n, k2_c, ar_n, ar_c, pk_n, pk_c, rm_0, rm_1, rm_2, rm_3, rm_4, rm_5, rc_9, rcs, fvs, rf_s, rf_n, isI_i, isL_l, isR_r, isR_n, isR_q, ct_i, ct_l, ct_r, ct_n, ct_q, tFs, tCs, tKs, tJs, tSs, e_nf, lgs, ↓reduceIte, true_and, and_true, false_and, and_false, or_true, true_or, false_or, or_false, Nat.reduceAdd, Nat.reduceEqDiff, Nat.reduceDiv, Nat.reduceLT, Nat.reduceLeDiff, Nat.zero_add, reduceCtorEq, Bool.false_eq_true, Option.toList_some, Option.toList_none, List.cons_append, List.nil_append, not_true_eq_false, not_false_eq_true, Nat.sub_zero, dsL_law_10, jsL_law_0, jsL_law_1, xcL_law, nI_1]
  exact hN _ _ _ _ _ _ _ ⟨hN2, hM2, hW⟩ (by omega) (by omega)
set_option maxRecDepth 20000 in
theorem lc_late {Q : QT} {G : GT} {b L : Nat} {xs : Nat → Int32} {O : GH} {A : Nat → Nat} {M : HM} {x m i k n : Nat} {Ls : List SER} {z : Nat × Nat × Nat} (hG : e_cls b L xs 8 4 4 false cL_law csL_law Q G) (hi : i + 9 ≤ L) (hL : L ≤ 4608) (h : LI O A M x m Ls z) (hk : 98 ≤ k) (hn : 9600 ≤ n) (hN : ∀ O A M Ls z k' n', LI O A M x m Ls z → k - 98 ≤ k' → n - 9600 ≤ n' → G 1431 [(0, .ref b), (1, .ref x), (2, .ref m), (3, .int (nI i))] [] M k' n') : G 868 [(0, .ref b), (1, .ref x), (2, .ref m), (3, .int (nI i))] [] M k n := by
  obtain ⟨hN1, hM1, hW⟩ := h
  have kx := hN1.ks.1
  have km := hM1.1.1
  have c1 : (nI (i + 1)).toNatClampNeg = i + 1 := nI_clamp (by omega)
  have v1 : vp_in (nI (i + 1)) L := vp_in_nI (by omega) (by omega)
  have c2 : (nI (i + 2)).toNatClampNeg = i + 2 := nI_clamp (by omega)
  have v2 : vp_in (nI (i + 2)) L := vp_in_nI (by omega) (by omega)
  have c3 : (nI (i + 3)).toNatClampNeg = i + 3 := nI_clamp (by omega)
  have v3 : vp_in (nI (i + 3)) L := vp_in_nI (by omega) (by omega)
  refine e_gs hG [(887, [0, 1, 2, 3])] 120 ?_
  simp only [e_wps_s, xs_ia, xs_al, xs_a, xs_b, xs_c, Option.getD_some, Option.isSome_some, Option.isSome_none, xis0, xis1, xis2, xis3, xis4, e_ks, lk_k, lk_c, List.lookup_nil, gt_c, vi_i, k1_n, k1_c, k2_n, k2_c, ar_n, ar_c, pk_n, pk_c, rm_0, rm_1, rm_2, rm_3, rm_4, rm_5, rc_9, rcs, fvs, rf_s, rf_n, isI_i, isL_l, isR_r, isR_n, isR_q, ct_i, ct_l, ct_r, ct_n, ct_q, tFs, tCs, tKs, tJs, tSs, e_nf, lgs, ↓reduceIte, true_and, and_true, false_and, and_false, or_true, true_or, false_or, or_false, Nat.reduceAdd, Nat.reduceEqDiff, Nat.reduceDiv, Nat.reduceLT, Nat.reduceLeDiff, Nat.zero_add, reduceCtorEq, Bool.false_eq_true, Option.toList_some, Option.toList_none, List.cons_append, List.nil_append, not_true_eq_false, not_false_eq_true, Nat.sub_zero, dsL_law_10, jsL_law_0, jsL_law_1, xcL_law, kx, c1, v1, c2, v2, c3, v3, nI_1, nIks]
  refine ⟨O, Ls, _, _, _, hN1, ?_⟩
  have hN2 := hN1
  have hM2 := hM1
  have km2 := km
  refine e_gs hG [(906, [0, 1, 2, 3])] 120 ?_
  simp only [e_wps_s, xs_ia, xs_al, xs_a, xs_b, xs_c, Option.getD_some, Option.isSome_some, Option.isSome_none, xis0, xis1, xis2, xis3, xis4, e_ks, lk_k, lk_c, List.lookup_nil, gt_c, vi_i, k1_n, k1_c, k2_n, k2_c, ar_n, ar_c, pk_n, pk_c, rm_0, rm_1, rm_2, rm_3, rm_4, rm_5, rc_9, rcs, fvs, rf_s, rf_n, isI_i, isL_l, isR_r, isR_n, isR_q, ct_i, ct_l, ct_r, ct_n, ct_q, tFs, tCs, tKs, tJs, tSs, e_nf, lgs, ↓reduceIte, true_and, and_true, false_and, and_false, or_true, true_or, false_or, or_false, Nat.reduceAdd, Nat.reduceEqDiff, Nat.reduceDiv, Nat.reduceLT, Nat.reduceLeDiff, Nat.zero_add, reduceCtorEq, Bool.false_eq_true, Option.toList_some, Option.toList_none, List.cons_append, List.nil_append, not_true_eq_false, not_false_eq_true, Nat.sub_zero, dsL_law_10, dsL_law_11, jsL_law_0, jsL_law_1, xcL_law, km2, c1, v1, c2, v2, c3, v3, nI_1, nIks]
  refine ⟨A, O, Ls, z, hM2, ?_⟩
  refine e_gs hG [(1431, [0, 1, 2, 3])] 120 ?_
  simp only [e_wps_s, xs_ia, xs_al, xs_a, xs_b, xs_c, Option.getD_some, Option.isSome_some, Option.isSome_none, xis0, xis1, xis2, xis3, xis4, e_ks, lk_k, lk_c, List.lookup_nil, gt_c, vi_i, k1_n, k1_c, k2_n, k2_c, ar_n, ar_c, pk_n, pk_c, rm_0, rm_1, rm_2, rm_3, rm_4, rm_5, rc_9, rcs, fvs, rf_s, rf_n, isI_i, isL_l, isR_r, isR_n, isR_q, ct_i, ct_l, ct_r, ct_n, ct_q, tFs, tCs, tKs, tJs, tSs, e_nf, lgs, ↓reduceIte, true_and, and_true, false_and, and_false, or_true, true_or, false_or, or_false, Nat.reduceAdd, Nat.reduceEqDiff, Nat.reduceDiv, Nat.reduceLT, Nat.reduceLeDiff, Nat.zero_add, reduceCtorEq, Bool.false_eq_true, Option.toList_some, Option.toList_none, List.cons_append, List.nil_append, not_true_eq_false, not_false_eq_true, Nat.sub_zero, dsL_law_11, jsL_law_0, jsL_law_1, xcL_law, nI_1]
  exact hN _ _ _ _ _ _ _ ⟨hN2, hM2, hW⟩ (by omega) (by omega)
set_option maxRecDepth 20000 in
theorem lc_span {Q : QT} {G : GT} {b L : Nat} {xs : Nat → Int32} {O : GH} {A : Nat → Nat} {M : HM} {x m i k n : Nat} {Ls : List SER} {z : Nat × Nat × Nat} (hG : e_cls b L xs 8 4 4 false cL_law csL_law Q G) (hi : i + 9 ≤ L) (hL : L ≤ 4608) (h : LI O A M x m Ls z) (hk : 98 ≤ k) (hn : 9600 ≤ n) (hN : ∀ O A M Ls z k' n', LI O A M x m Ls z → k - 98 ≤ k' → n - 9600 ≤ n' → G 1431 [(0, .ref b), (1, .ref x), (2, .ref m), (3, .int (nI i))] [] M k' n') : G 912 [(0, .ref b), (1, .ref x), (2, .ref m), (3, .int (nI i))] [] M k n := by
  obtain ⟨hN1, hM1, hW⟩ := h
  have kx := hN1.ks.1
  have km := hM1.1.1
  have c1 : (nI (i + 1)).toNatClampNeg = i + 1 := nI_clamp (by omega)
  have v1 : vp_in (nI (i + 1)) L := vp_in_nI (by omega) (by omega)
  have c2 : (nI (i + 2)).toNatClampNeg = i + 2 := nI_clamp (by omega)
  have v2 : vp_in (nI (i + 2)) L := vp_in_nI (by omega) (by omega)
  have c3 : (nI (i + 3)).toNatClampNeg = i + 3 := nI_clamp (by omega)
  have v3 : vp_in (nI (i + 3)) L := vp_in_nI (by omega) (by omega)
  refine e_gs hG [(931, [0, 1, 2, 3])] 120 ?_
  simp only [e_wps_s, xs_ia, xs_al, xs_a, xs_b, xs_c, Option.getD_some, Option.isSome_some, Option.isSome_none, xis0, xis1, xis2, xis3, xis4, e_ks, lk_k, lk_c, List.lookup_nil, gt_c, vi_i, k1_n, k1_c, k2_n, k2_c, ar_n, ar_c, pk_n, pk_c, rm_0, rm_1, rm_2, rm_3, rm_4, rm_5, rc_9, rcs, fvs, rf_s, rf_n, isI_i, isL_l, isR_r, isR_n, isR_q, ct_i, ct_l, ct_r, ct_n, ct_q, tFs, tCs, tKs, tJs, tSs, e_nf, lgs, ↓reduceIte, true_and, and_true, false_and, and_false, or_true, true_or, false_or, or_false, Nat.reduceAdd, Nat.reduceEqDiff, Nat.reduceDiv, Nat.reduceLT, Nat.reduceLeDiff, Nat.zero_add, reduceCtorEq, Bool.false_eq_true, Option.toList_some, Option.toList_none, List.cons_append, List.nil_append, not_true_eq_false, not_false_eq_true, Nat.sub_zero, dsL_law_11, jsL_law_0, jsL_law_1, xcL_law, kx, c1, v1, c2, v2, c3, v3, nI_1, nIks]
  refine ⟨O, Ls, _, _, _, hN1, ?_⟩
  have hN2 := hN1
  have hM2 := hM1
  have km2 := km
  refine e_gs hG [(950, [0, 1, 2, 3])] 120 ?_
  simp only [e_wps_s, xs_ia, xs_al, xs_a, xs_b, xs_c, Option.getD_some, Option.isSome_some, Option.isSome_none, xis0, xis1, xis2, xis3, xis4, e_ks, lk_k, lk_c, List.lookup_nil, gt_c, vi_i, k1_n, k1_c, k2_n, k2_c, ar_n, ar_c, pk_n, pk_c, rm_0, rm_1, rm_2, rm_3, rm_4, rm_5, rc_9, rcs, fvs, rf_s, rf_n, isI_i, isL_l, isR_r, isR_n, isR_q, ct_i, ct_l, ct_r, ct_n, ct_q, tFs, tCs, tKs, tJs, tSs, e_nf, lgs, ↓reduceIte, true_and, and_true, false_and, and_false, or_true, true_or, false_or, or_false, Nat.reduceAdd, Nat.reduceEqDiff, Nat.reduceDiv, Nat.reduceLT, Nat.reduceLeDiff, Nat.zero_add, reduceCtorEq, Bool.false_eq_true, Option.toList_some, Option.toList_none, List.cons_append, List.nil_append, not_true_eq_false, not_false_eq_true, Nat.sub_zero, dsL_law_11, jsL_law_0, jsL_law_1, xcL_law, km2, c1, v1, c2, v2, c3, v3, nI_1, nIks]
  refine ⟨A, O, Ls, z, hM2, ?_⟩
  refine e_gs hG [(1431, [0, 1, 2, 3])] 120 ?_
  simp only [e_wps_s, xs_ia, xs_al, xs_a, xs_b, xs_c, Option.getD_some, Option.isSome_some, Option.isSome_none, xis0, xis1, xis2, xis3, xis4, e_ks, lk_k, lk_c, List.lookup_nil, gt_c, vi_i, k1_n, k1_c, k2_n, k2_c, ar_n, ar_c, pk_n, pk_c, rm_0, rm_1, rm_2, rm_3, rm_4, rm_5, rc_9, rcs, fvs, rf_s, rf_n, isI_i, isL_l, isR_r, isR_n, isR_q, ct_i, ct_l, ct_r, ct_n, ct_q, tFs, tCs, tKs, tJs, tSs, e_nf, lgs, ↓reduceIte, true_and, and_true, false_and, and_false, or_true, true_or, false_or, or_false, Nat.reduceAdd, Nat.reduceEqDiff, Nat.reduceDiv, Nat.reduceLT, Nat.reduceLeDiff, Nat.zero_add, reduceCtorEq, Bool.false_eq_true, Option.toList_some, Option.toList_none, List.cons_append, List.nil_append, not_true_eq_false, not_false_eq_true, Nat.sub_zero, dsL_law_11, jsL_law_0, jsL_law_1, xcL_law, nI_1]
  exact hN _ _ _ _ _ _ _ ⟨hN2, hM2, hW⟩ (by omega) (by omega)
set_option maxRecDepth 20000 in
theorem lc_count {Q : QT} {G : GT} {b L : Nat} {xs : Nat → Int32} {O : GH} {A : Nat → Nat} {M : HM} {x m i k n : Nat} {Ls : List SER} {z : Nat × Nat × Nat} (hG : e_cls b L xs 8 4 4 false cL_law csL_law Q G) (hi : i + 9 ≤ L) (hL : L ≤ 4608) (h : LI O A M x m Ls z) (hk : 98 ≤ k) (hn : 9600 ≤ n) (hN : ∀ O A M Ls z k' n', LI O A M x m Ls z → k - 98 ≤ k' → n - 9600 ≤ n' → G 1431 [(0, .ref b), (1, .ref x), (2, .ref m), (3, .int (nI i))] [] M k' n') : G 956 [(0, .ref b), (1, .ref x), (2, .ref m), (3, .int (nI i))] [] M k n := by
  obtain ⟨hN1, hM1, hW⟩ := h
  have kx := hN1.ks.1
  have km := hM1.1.1
  have c1 : (nI (i + 1)).toNatClampNeg = i + 1 := nI_clamp (by omega)
  have v1 : vp_in (nI (i + 1)) L := vp_in_nI (by omega) (by omega)
  have c2 : (nI (i + 2)).toNatClampNeg = i + 2 := nI_clamp (by omega)
  have v2 : vp_in (nI (i + 2)) L := vp_in_nI (by omega) (by omega)
  have c3 : (nI (i + 3)).toNatClampNeg = i + 3 := nI_clamp (by omega)
  have v3 : vp_in (nI (i + 3)) L := vp_in_nI (by omega) (by omega)
  refine e_gs hG [(975, [0, 1, 2, 3])] 120 ?_
  simp only [e_wps_s, xs_ia, xs_al, xs_a, xs_b, xs_c, Option.getD_some, Option.isSome_some, Option.isSome_none, xis0, xis1, xis2, xis3, xis4, e_ks, lk_k, lk_c, List.lookup_nil, gt_c, vi_i, k1_n, k1_c, k2_n, k2_c, ar_n, ar_c, pk_n, pk_c, rm_0, rm_1, rm_2, rm_3, rm_4, rm_5, rc_9, rcs, fvs, rf_s, rf_n, isI_i, isL_l, isR_r, isR_n, isR_q, ct_i, ct_l, ct_r, ct_n, ct_q, tFs, tCs, tKs, tJs, tSs, e_nf, lgs, ↓reduceIte, true_and, and_true, false_and, and_false, or_true, true_or, false_or, or_false, Nat.reduceAdd, Nat.reduceEqDiff, Nat.reduceDiv, Nat.reduceLT, Nat.reduceLeDiff, Nat.zero_add, reduceCtorEq, Bool.false_eq_true, Option.toList_some, Option.toList_none, List.cons_append, List.nil_append, not_true_eq_false, not_false_eq_true, Nat.sub_zero, dsL_law_11, dsL_law_12, jsL_law_0, jsL_law_1, xcL_law, kx, c1, v1, c2, v2, c3, v3, nI_1, nIks]
  refine ⟨O, Ls, z, m, hN1, km, hW.w1, fun O2 M2 hN2 hF => ?_⟩
  have hM2 := hM1.out hF
  have km2 := hM2.1.1
  refine e_gs hG [(994, [0, 1, 2, 3])] 120 ?_
  simp only [e_wps_s, xs_ia, xs_al, xs_a, xs_b, xs_c, Option.getD_some, Option.isSome_some, Option.isSome_none, xis0, xis1, xis2, xis3, xis4, e_ks, lk_k, lk_c, List.lookup_nil, gt_c, vi_i, k1_n, k1_c, k2_n, k2_c, ar_n, ar_c, pk_n, pk_c, rm_0, rm_1, rm_2, rm_3, rm_4, rm_5, rc_9, rcs, fvs, rf_s, rf_n, isI_i, isL_l, isR_r, isR_n, isR_q, ct_i, ct_l, ct_r, ct_n, ct_q, tFs, tCs, tKs, tJs, tSs, e_nf, lgs, ↓reduceIte, true_and, and_true, false_and, and_false, or_true, true_or, false_or, or_false, Nat.reduceAdd, Nat.reduceEqDiff, Nat.reduceDiv, Nat.reduceLT, Nat.reduceLeDiff, Nat.zero_add, reduceCtorEq, Bool.false_eq_true, Option.toList_some, Option.toList_none, List.cons_append, List.nil_append, not_true_eq_false, not_false_eq_true, Nat.sub_zero, dsL_law_12, jsL_law_0, jsL_law_1, xcL_law, km2, c1, v1, c2, v2, c3, v3, nI_1, nIks]
  refine ⟨A, O2, Ls, z, hM2, hW.wt, hW.sz, fun U hU hFU => ?_⟩
  rw [cnt_eq hW] at hU ⊢
  refine e_gs hG [(1431, [0, 1, 2, 3])] 120 ?_
  simp only [e_wps_s, xs_ia, xs_al, xs_a, xs_b, xs_c, Option.getD_some, Option.isSome_some, Option.isSome_none, xis0, xis1, xis2, xis3, xis4, e_ks, lk_k, lk_c, List.lookup_nil, gt_c, vi_i, k1_n, k1_c, k2_n, k2_c, ar_n, ar_c, pk_n, pk_c, rm_0, rm_1, rm_2, rm_3, rm_4, rm_5, rc_9, rcs, fvs, rf_s, rf_n, isI_i, isL_l, isR_r, isR_n, isR_q, ct_i, ct_l, ct_r, ct_n, ct_q, tFs, tCs, tKs, tJs, tSs, e_nf, lgs, ↓reduceIte, true_and, and_true, false_and, and_false, or_true, true_or, false_or, or_false, Nat.reduceAdd, Nat.reduceEqDiff, Nat.reduceDiv, Nat.reduceLT, Nat.reduceLeDiff, Nat.zero_add, reduceCtorEq, Bool.false_eq_true, Option.toList_some, Option.toList_none, List.cons_append, List.nil_append, not_true_eq_false, not_false_eq_true, Nat.sub_zero, dsL_law_12, jsL_law_0, jsL_law_1, xcL_law, nI_1]
  exact hN _ _ _ _ _ _ _ ⟨hN2.ref hFU km2, hU, hW⟩ (by omega) (by omega)
set_option maxRecDepth 20000 in
theorem lc_sum {Q : QT} {G : GT} {b L : Nat} {xs : Nat → Int32} {O : GH} {A : Nat → Nat} {M : HM} {x m i k n : Nat} {Ls : List SER} {z : Nat × Nat × Nat} (hG : e_cls b L xs 8 4 4 false cL_law csL_law Q G) (hi : i + 9 ≤ L) (hL : L ≤ 4608) (h : LI O A M x m Ls z) (hk : 98 ≤ k) (hn : 9600 ≤ n) (hN : ∀ O A M Ls z k' n', LI O A M x m Ls z → k - 98 ≤ k' → n - 9600 ≤ n' → G 1431 [(0, .ref b), (1, .ref x), (2, .ref m), (3, .int (nI i))] [] M k' n') : G 999 [(0, .ref b), (1, .ref x), (2, .ref m), (3, .int (nI i))] [] M k n := by
  obtain ⟨hN1, hM1, hW⟩ := h
  have kx := hN1.ks.1
  have km := hM1.1.1
  have c1 : (nI (i + 1)).toNatClampNeg = i + 1 := nI_clamp (by omega)
  have v1 : vp_in (nI (i + 1)) L := vp_in_nI (by omega) (by omega)
  have c2 : (nI (i + 2)).toNatClampNeg = i + 2 := nI_clamp (by omega)
  have v2 : vp_in (nI (i + 2)) L := vp_in_nI (by omega) (by omega)
  have c3 : (nI (i + 3)).toNatClampNeg = i + 3 := nI_clamp (by omega)
  have v3 : vp_in (nI (i + 3)) L := vp_in_nI (by omega) (by omega)
  refine e_gs hG [(1018, [0, 1, 2, 3])] 120 ?_
  simp only [e_wps_s, xs_ia, xs_al, xs_a, xs_b, xs_c, Option.getD_some, Option.isSome_some, Option.isSome_none, xis0, xis1, xis2, xis3, xis4, e_ks, lk_k, lk_c, List.lookup_nil, gt_c, vi_i, k1_n, k1_c, k2_n, k2_c, ar_n, ar_c, pk_n, pk_c, rm_0, rm_1, rm_2, rm_3, rm_4, rm_5, rc_9, rcs, fvs, rf_s, rf_n, isI_i, isL_l, isR_r, isR_n, isR_q, ct_i, ct_l, ct_r, ct_n, ct_q, tFs, tCs, tKs, tJs, tSs, e_nf, lgs, ↓reduceIte, true_and, and_true, false_and, and_false, or_true, true_or, false_or, or_false, Nat.reduceAdd, Nat.reduceEqDiff, Nat.reduceDiv, Nat.reduceLT, Nat.reduceLeDiff, Nat.zero_add, reduceCtorEq, Bool.false_eq_true, Option.toList_some, Option.toList_none, List.cons_append, List.nil_append, not_true_eq_false, not_false_eq_true, Nat.sub_zero, dsL_law_12, jsL_law_0, jsL_law_1, xcL_law, kx, c1, v1, c2, v2, c3, v3, nI_1, nIks]
  refine ⟨O, Ls, z, m, hN1, km, hW.w1, fun O2 M2 hN2 hF => ?_⟩
  have hM2 := hM1.out hF
  have km2 := hM2.1.1
  refine e_gs hG [(1037, [0, 1, 2, 3])] 120 ?_
  simp only [e_wps_s, xs_ia, xs_al, xs_a, xs_b, xs_c, Option.getD_some, Option.isSome_some, Option.isSome_none, xis0, xis1, xis2, xis3, xis4, e_ks, lk_k, lk_c, List.lookup_nil, gt_c, vi_i, k1_n, k1_c, k2_n, k2_c, ar_n, ar_c, pk_n, pk_c, rm_0, rm_1, rm_2, rm_3, rm_4, rm_5, rc_9, rcs, fvs, rf_s, rf_n, isI_i, isL_l, isR_r, isR_n, isR_q, ct_i, ct_l, ct_r, ct_n, ct_q, tFs, tCs, tKs, tJs, tSs, e_nf, lgs, ↓reduceIte, true_and, and_true, false_and, and_false, or_true, true_or, false_or, or_false, Nat.reduceAdd, Nat.reduceEqDiff, Nat.reduceDiv, Nat.reduceLT, Nat.reduceLeDiff, Nat.zero_add, reduceCtorEq, Bool.false_eq_true, Option.toList_some, Option.toList_none, List.cons_append, List.nil_append, not_true_eq_false, not_false_eq_true, Nat.sub_zero, dsL_law_12, dsL_law_13, jsL_law_0, jsL_law_1, xcL_law, km2, c1, v1, c2, v2, c3, v3, nI_1, nIks]
  refine ⟨A, O2, Ls, z, hM2, hW.wt, fun U hU hFU => ?_⟩
  rw [sum_eq hW] at hU ⊢
  refine e_gs hG [(1431, [0, 1, 2, 3])] 120 ?_
  simp only [e_wps_s, xs_ia, xs_al, xs_a, xs_b, xs_c, Option.getD_some, Option.isSome_some, Option.isSome_none, xis0, xis1, xis2, xis3, xis4, e_ks, lk_k, lk_c, List.lookup_nil, gt_c, vi_i, k1_n, k1_c, k2_n, k2_c, ar_n, ar_c, pk_n, pk_c, rm_0, rm_1, rm_2, rm_3, rm_4, rm_5, rc_9, rcs, fvs, rf_s, rf_n, isI_i, isL_l, isR_r, isR_n, isR_q, ct_i, ct_l, ct_r, ct_n, ct_q, tFs, tCs, tKs, tJs, tSs, e_nf, lgs, ↓reduceIte, true_and, and_true, false_and, and_false, or_true, true_or, false_or, or_false, Nat.reduceAdd, Nat.reduceEqDiff, Nat.reduceDiv, Nat.reduceLT, Nat.reduceLeDiff, Nat.zero_add, reduceCtorEq, Bool.false_eq_true, Option.toList_some, Option.toList_none, List.cons_append, List.nil_append, not_true_eq_false, not_false_eq_true, Nat.sub_zero, dsL_law_13, jsL_law_0, jsL_law_1, xcL_law, nI_1]
  exact hN _ _ _ _ _ _ _ ⟨hN2.ref hFU km2, hU, hW⟩ (by omega) (by omega)
set_option maxRecDepth 20000 in
theorem lc_least {Q : QT} {G : GT} {b L : Nat} {xs : Nat → Int32} {O : GH} {A : Nat → Nat} {M : HM} {x m i k n : Nat} {Ls : List SER} {z : Nat × Nat × Nat} (hG : e_cls b L xs 8 4 4 false cL_law csL_law Q G) (hi : i + 9 ≤ L) (hL : L ≤ 4608) (h : LI O A M x m Ls z) (hk : 98 ≤ k) (hn : 9600 ≤ n) (hN : ∀ O A M Ls z k' n', LI O A M x m Ls z → k - 98 ≤ k' → n - 9600 ≤ n' → G 1431 [(0, .ref b), (1, .ref x), (2, .ref m), (3, .int (nI i))] [] M k' n') : G 1043 [(0, .ref b), (1, .ref x), (2, .ref m), (3, .int (nI i))] [] M k n := by
  obtain ⟨hN1, hM1, hW⟩ := h
  have kx := hN1.ks.1
  have km := hM1.1.1
  have c1 : (nI (i + 1)).toNatClampNeg = i + 1 := nI_clamp (by omega)
  have v1 : vp_in (nI (i + 1)) L := vp_in_nI (by omega) (by omega)
  have c2 : (nI (i + 2)).toNatClampNeg = i + 2 := nI_clamp (by omega)
  have v2 : vp_in (nI (i + 2)) L := vp_in_nI (by omega) (by omega)
  have c3 : (nI (i + 3)).toNatClampNeg = i + 3 := nI_clamp (by omega)
  have v3 : vp_in (nI (i + 3)) L := vp_in_nI (by omega) (by omega)
  have c4 : (nI (i + 4)).toNatClampNeg = i + 4 := nI_clamp (by omega)
  have v4 : vp_in (nI (i + 4)) L := vp_in_nI (by omega) (by omega)
  by_cases cb : xs (i + 4) = 0
  · refine e_gs hG [(1075, [0, 1, 2, 3])] 120 ?_
    simp only [e_wps_s, xs_ia, xs_al, xs_a, xs_b, xs_c, Option.getD_some, Option.isSome_some, Option.isSome_none, xis0, xis1, xis2, xis3, xis4, e_ks, lk_k, lk_c, List.lookup_nil, gt_c, vi_i, k1_n, k1_c, k2_n, k2_c, ar_n, ar_c, pk_n, pk_c, rm_0, rm_1, rm_2, rm_3, rm_4, rm_5, rc_9, rcs, fvs, rf_s, rf_n, isI_i, isL_l, isR_r, isR_n, isR_q, ct_i, ct_l, ct_r, ct_n, ct_q, tFs, tCs, tKs, tJs, tSs, e_nf, lgs, ↓reduceIte, true_and, and_true, false_and, and_false, or_true, true_or, false_or, or_false, Nat.reduceAdd, Nat.reduceEqDiff, Nat.reduceDiv, Nat.reduceLT, Nat.reduceLeDiff, Nat.zero_add, reduceCtorEq, Bool.false_eq_true, Option.toList_some, Option.toList_none, List.cons_append, List.nil_append, not_true_eq_false, not_false_eq_true, Nat.sub_zero, dsL_law_13, jsL_law_0, jsL_law_1, xcL_law, kx, c1, v1, c2, v2, c3, v3, c4, v4, nI_1, nIks, cb]
    refine ⟨O, Ls, z, m, hN1, km, hW.w1, fun O2 M2 hN2 hF => ?_⟩
    have hM2 := hM1.out hF
    have km2 := hM2.1.1
    refine e_gs hG [(1107, [0, 1, 2, 3])] 120 ?_
    simp only [e_wps_s, xs_ia, xs_al, xs_a, xs_b, xs_c, Option.getD_some, Option.isSome_some, Option.isSome_none, xis0, xis1, xis2, xis3, xis4, e_ks, lk_k, lk_c, List.lookup_nil, gt_c, vi_i, k1_n, k1_c, k2_n, k2_c, ar_n, ar_c, pk_n, pk_c, rm_0, rm_1, rm_2, rm_3, rm_4, rm_5, rc_9, rcs, fvs, rf_s, rf_n, isI_i, isL_l, isR_r, isR_n, isR_q, ct_i, ct_l, ct_r, ct_n, ct_q, tFs, tCs, tKs, tJs, tSs, e_nf, lgs, ↓reduceIte, true_and, and_true, false_and, and_false, or_true, true_or, false_or, or_false, Nat.reduceAdd, Nat.reduceEqDiff, Nat.reduceDiv, Nat.reduceLT, Nat.reduceLeDiff, Nat.zero_add, reduceCtorEq, Bool.false_eq_true, Option.toList_some, Option.toList_none, List.cons_append, List.nil_append, not_true_eq_false, not_false_eq_true, Nat.sub_zero, dsL_law_13, jsL_law_0, jsL_law_1, xcL_law, km2, c1, v1, c2, v2, c3, v3, c4, v4, nI_1, nIks, cb]
    refine ⟨A, O2, Ls, z, hM2, hW.wt, hW.nv, fun U hU hFU => ?_⟩
    rw [lst_eq hW] at hU ⊢
    refine e_gs hG [(1431, [0, 1, 2, 3])] 120 ?_
    simp only [e_wps_s, xs_ia, xs_al, xs_a, xs_b, xs_c, Option.getD_some, Option.isSome_some, Option.isSome_none, xis0, xis1, xis2, xis3, xis4, e_ks, lk_k, lk_c, List.lookup_nil, gt_c, vi_i, k1_n, k1_c, k2_n, k2_c, ar_n, ar_c, pk_n, pk_c, rm_0, rm_1, rm_2, rm_3, rm_4, rm_5, rc_9, rcs, fvs, rf_s, rf_n, isI_i, isL_l, isR_r, isR_n, isR_q, ct_i, ct_l, ct_r, ct_n, ct_q, tFs, tCs, tKs, tJs, tSs, e_nf, lgs, ↓reduceIte, true_and, and_true, false_and, and_false, or_true, true_or, false_or, or_false, Nat.reduceAdd, Nat.reduceEqDiff, Nat.reduceDiv, Nat.reduceLT, Nat.reduceLeDiff, Nat.zero_add, reduceCtorEq, Bool.false_eq_true, Option.toList_some, Option.toList_none, List.cons_append, List.nil_append, not_true_eq_false, not_false_eq_true, Nat.sub_zero, dsL_law_13, dsL_law_14, jsL_law_0, jsL_law_1, xcL_law, nI_1]
    exact hN _ _ _ _ _ _ _ ⟨hN2.ref hFU km2, hU, hW⟩ (by omega) (by omega)
  · refine e_gs hG [(1075, [0, 1, 2, 3])] 120 ?_
    simp only [e_wps_s, xs_ia, xs_al, xs_a, xs_b, xs_c, Option.getD_some, Option.isSome_some, Option.isSome_none, xis0, xis1, xis2, xis3, xis4, e_ks, lk_k, lk_c, List.lookup_nil, gt_c, vi_i, k1_n, k1_c, k2_n, k2_c, ar_n, ar_c, pk_n, pk_c, rm_0, rm_1, rm_2, rm_3, rm_4, rm_5, rc_9, rcs, fvs, rf_s, rf_n, isI_i, isL_l, isR_r, isR_n, isR_q, ct_i, ct_l, ct_r, ct_n, ct_q, tFs, tCs, tKs, tJs, tSs, e_nf, lgs, ↓reduceIte, true_and, and_true, false_and, and_false, or_true, true_or, false_or, or_false, Nat.reduceAdd, Nat.reduceEqDiff, Nat.reduceDiv, Nat.reduceLT, Nat.reduceLeDiff, Nat.zero_add, reduceCtorEq, Bool.false_eq_true, Option.toList_some, Option.toList_none, List.cons_append, List.nil_append, not_true_eq_false, not_false_eq_true, Nat.sub_zero, dsL_law_13, jsL_law_0, jsL_law_1, xcL_law, kx, c1, v1, c2, v2, c3, v3, c4, v4, nI_1, nIks, cb]
    refine ⟨O, Ls, z, m, hN1, km, hW.w1, fun O2 M2 hN2 hF => ?_⟩
    have hM2 := hM1.out hF
    have km2 := hM2.1.1
    refine e_gs hG [(1107, [0, 1, 2, 3])] 120 ?_
    simp only [e_wps_s, xs_ia, xs_al, xs_a, xs_b, xs_c, Option.getD_some, Option.isSome_some, Option.isSome_none, xis0, xis1, xis2, xis3, xis4, e_ks, lk_k, lk_c, List.lookup_nil, gt_c, vi_i, k1_n, k1_c, k2_n, k2_c, ar_n, ar_c, pk_n, pk_c, rm_0, rm_1, rm_2, rm_3, rm_4, rm_5, rc_9, rcs, fvs, rf_s, rf_n, isI_i, isL_l, isR_r, isR_n, isR_q, ct_i, ct_l, ct_r, ct_n, ct_q, tFs, tCs, tKs, tJs, tSs, e_nf, lgs, ↓reduceIte, true_and, and_true, false_and, and_false, or_true, true_or, false_or, or_false, Nat.reduceAdd, Nat.reduceEqDiff, Nat.reduceDiv, Nat.reduceLT, Nat.reduceLeDiff, Nat.zero_add, reduceCtorEq, Bool.false_eq_true, Option.toList_some, Option.toList_none, List.cons_append, List.nil_append, not_true_eq_false, not_false_eq_true, Nat.sub_zero, dsL_law_13, jsL_law_0, jsL_law_1, xcL_law, km2, c1, v1, c2, v2, c3, v3, c4, v4, nI_1, nIks, cb]
    refine ⟨A, O2, Ls, z, hM2, hW.wt, hW.nv, fun U hU hFU => ?_⟩
    rw [lst_eq hW] at hU ⊢
    refine e_gs hG [(1431, [0, 1, 2, 3])] 120 ?_
    simp only [e_wps_s, xs_ia, xs_al, xs_a, xs_b, xs_c, Option.getD_some, Option.isSome_some, Option.isSome_none, xis0, xis1, xis2, xis3, xis4, e_ks, lk_k, lk_c, List.lookup_nil, gt_c, vi_i, k1_n, k1_c, k2_n, k2_c, ar_n, ar_c, pk_n, pk_c, rm_0, rm_1, rm_2, rm_3, rm_4, rm_5, rc_9, rcs, fvs, rf_s, rf_n, isI_i, isL_l, isR_r, isR_n, isR_q, ct_i, ct_l, ct_r, ct_n, ct_q, tFs, tCs, tKs, tJs, tSs, e_nf, lgs, ↓reduceIte, true_and, and_true, false_and, and_false, or_true, true_or, false_or, or_false, Nat.reduceAdd, Nat.reduceEqDiff, Nat.reduceDiv, Nat.reduceLT, Nat.reduceLeDiff, Nat.zero_add, reduceCtorEq, Bool.false_eq_true, Option.toList_some, Option.toList_none, List.cons_append, List.nil_append, not_true_eq_false, not_false_eq_true, Nat.sub_zero, dsL_law_13, dsL_law_14, jsL_law_0, jsL_law_1, xcL_law, nI_1]
    exact hN _ _ _ _ _ _ _ ⟨hN2.ref hFU km2, hU, hW⟩ (by omega) (by omega)
set_option maxRecDepth 20000 in
theorem lc_rise {Q : QT} {G : GT} {b L : Nat} {xs : Nat → Int32} {O : GH} {A : Nat → Nat} {M : HM} {x m i k n : Nat} {Ls : List SER} {z : Nat × Nat × Nat} (hG : e_cls b L xs 8 4 4 false cL_law csL_law Q G) (hi : i + 9 ≤ L) (hL : L ≤ 4608) (h : LI O A M x m Ls z) (hk : 98 ≤ k) (hn : 9600 ≤ n) (hN : ∀ O A M Ls z k' n', LI O A M x m Ls z → k - 98 ≤ k' → n - 9600 ≤ n' → G 1431 [(0, .ref b), (1, .ref x), (2, .ref m), (3, .int (nI i))] [] M k' n') : G 1113 [(0, .ref b), (1, .ref x), (2, .ref m), (3, .int (nI i))] [] M k n := by
  obtain ⟨hN1, hM1, hW⟩ := h
  have kx := hN1.ks.1
  have km := hM1.1.1
  have c1 : (nI (i + 1)).toNatClampNeg = i + 1 := nI_clamp (by omega)
  have v1 : vp_in (nI (i + 1)) L := vp_in_nI (by omega) (by omega)
  have c2 : (nI (i + 2)).toNatClampNeg = i + 2 := nI_clamp (by omega)
  have v2 : vp_in (nI (i + 2)) L := vp_in_nI (by omega) (by omega)
  have c3 : (nI (i + 3)).toNatClampNeg = i + 3 := nI_clamp (by omega)
  have v3 : vp_in (nI (i + 3)) L := vp_in_nI (by omega) (by omega)
  refine e_gs hG [(1132, [0, 1, 2, 3])] 120 ?_
  simp only [e_wps_s, xs_ia, xs_al, xs_a, xs_b, xs_c, Option.getD_some, Option.isSome_some, Option.isSome_none, xis0, xis1, xis2, xis3, xis4, e_ks, lk_k, lk_c, List.lookup_nil, gt_c, vi_i, k1_n, k1_c, k2_n, k2_c, ar_n, ar_c, pk_n, pk_c, rm_0, rm_1, rm_2, rm_3, rm_4, rm_5, rc_9, rcs, fvs, rf_s, rf_n, isI_i, isL_l, isR_r, isR_n, isR_q, ct_i, ct_l, ct_r, ct_n, ct_q, tFs, tCs, tKs, tJs, tSs, e_nf, lgs, ↓reduceIte, true_and, and_true, false_and, and_false, or_true, true_or, false_or, or_false, Nat.reduceAdd, Nat.reduceEqDiff, Nat.reduceDiv, Nat.reduceLT, Nat.reduceLeDiff, Nat.zero_add, reduceCtorEq, Bool.false_eq_true, Option.toList_some, Option.toList_none, List.cons_append, List.nil_append, not_true_eq_false, not_false_eq_true, Nat.sub_zero, dsL_law_14, jsL_law_0, jsL_law_1, xcL_law, kx, c1, v1, c2, v2, c3, v3, nI_1, nIks]
  refine ⟨O, Ls, z, m, hN1, km, hW.w1, fun O2 M2 hN2 hF => ?_⟩
  have hM2 := hM1.out hF
  have km2 := hM2.1.1
  refine e_gs hG [(1151, [0, 1, 2, 3])] 120 ?_
  simp only [e_wps_s, xs_ia, xs_al, xs_a, xs_b, xs_c, Option.getD_some, Option.isSome_some, Option.isSome_none, xis0, xis1, xis2, xis3, xis4, e_ks, lk_k, lk_c, List.lookup_nil, gt_c, vi_i, k1_n, k1_c, k2_n, k2_c, ar_n, ar_c, pk_n, pk_c, rm_0, rm_1, rm_2, rm_3, rm_4, rm_5, rc_9, rcs, fvs, rf_s, rf_n, isI_i, isL_l, isR_r, isR_n, isR_q, ct_i, ct_l, ct_r, ct_n, ct_q, tFs, tCs, tKs, tJs, tSs, e_nf, lgs, ↓reduceIte, true_and, and_true, false_and, and_false, or_true, true_or, false_or, or_false, Nat.reduceAdd, Nat.reduceEqDiff, Nat.reduceDiv, Nat.reduceLT, Nat.reduceLeDiff, Nat.zero_add, reduceCtorEq, Bool.false_eq_true, Option.toList_some, Option.toList_none, List.cons_append, List.nil_append, not_true_eq_false, not_false_eq_true, Nat.sub_zero, dsL_law_14, jsL_law_0, jsL_law_1, xcL_law, km2, c1, v1, c2, v2, c3, v3, nI_1, nIks]
  refine ⟨A, O2, Ls, z, hM2, hW.wt, fun U hU hFU => ?_⟩
  rw [ris_eq hW] at hU ⊢
  refine e_gs hG [(1431, [0, 1, 2, 3])] 120 ?_
  simp only [e_wps_s, xs_ia, xs_al, xs_a, xs_b, xs_c, Option.getD_some, Option.isSome_some, Option.isSome_none, xis0, xis1, xis2, xis3, xis4, e_ks, lk_k, lk_c, List.lookup_nil, gt_c, vi_i, k1_n, k1_c, k2_n, k2_c, ar_n, ar_c, pk_n, pk_c, rm_0, rm_1, rm_2, rm_3, rm_4, rm_5, rc_9, rcs, fvs, rf_s, rf_n, isI_i, isL_l, isR_r, isR_n, isR_q, ct_i, ct_l, ct_r, ct_n, ct_q, tFs, tCs, tKs, tJs, tSs, e_nf, lgs, ↓reduceIte, true_and, and_true, false_and, and_false, or_true, true_or, false_or, or_false, Nat.reduceAdd, Nat.reduceEqDiff, Nat.reduceDiv, Nat.reduceLT, Nat.reduceLeDiff, Nat.zero_add, reduceCtorEq, Bool.false_eq_true, Option.toList_some, Option.toList_none, List.cons_append, List.nil_append, not_true_eq_false, not_false_eq_true, Nat.sub_zero, dsL_law_14, jsL_law_0, jsL_law_1, xcL_law, nI_1]
  exact hN _ _ _ _ _ _ _ ⟨hN2.ref hFU km2, hU, hW⟩ (by omega) (by omega)
set_option maxRecDepth 20000 in
theorem lc_level {Q : QT} {G : GT} {b L : Nat} {xs : Nat → Int32} {O : GH} {A : Nat → Nat} {M : HM} {x m i k n : Nat} {Ls : List SER} {z : Nat × Nat × Nat} (hG : e_cls b L xs 8 4 4 false cL_law csL_law Q G) (hi : i + 9 ≤ L) (hL : L ≤ 4608) (h : LI O A M x m Ls z) (hk : 98 ≤ k) (hn : 9600 ≤ n) (hN : ∀ O A M Ls z k' n', LI O A M x m Ls z → k - 98 ≤ k' → n - 9600 ≤ n' → G 1431 [(0, .ref b), (1, .ref x), (2, .ref m), (3, .int (nI i))] [] M k' n') : G 1157 [(0, .ref b), (1, .ref x), (2, .ref m), (3, .int (nI i))] [] M k n := by
  obtain ⟨hN1, hM1, hW⟩ := h
  have kx := hN1.ks.1
  have km := hM1.1.1
  have c1 : (nI (i + 1)).toNatClampNeg = i + 1 := nI_clamp (by omega)
  have v1 : vp_in (nI (i + 1)) L := vp_in_nI (by omega) (by omega)
  have c2 : (nI (i + 2)).toNatClampNeg = i + 2 := nI_clamp (by omega)
  have v2 : vp_in (nI (i + 2)) L := vp_in_nI (by omega) (by omega)
  have c3 : (nI (i + 3)).toNatClampNeg = i + 3 := nI_clamp (by omega)
  have v3 : vp_in (nI (i + 3)) L := vp_in_nI (by omega) (by omega)
  have c4 : (nI (i + 4)).toNatClampNeg = i + 4 := nI_clamp (by omega)
  have v4 : vp_in (nI (i + 4)) L := vp_in_nI (by omega) (by omega)
  have c5 : (nI (i + 5)).toNatClampNeg = i + 5 := nI_clamp (by omega)
  have v5 : vp_in (nI (i + 5)) L := vp_in_nI (by omega) (by omega)
  refine e_gs hG [(1196, [0, 1, 2, 3])] 120 ?_
  simp only [e_wps_s, xs_ia, xs_al, xs_a, xs_b, xs_c, Option.getD_some, Option.isSome_some, Option.isSome_none, xis0, xis1, xis2, xis3, xis4, e_ks, lk_k, lk_c, List.lookup_nil, gt_c, vi_i, k1_n, k1_c, k2_n, k2_c, ar_n, ar_c, pk_n, pk_c, rm_0, rm_1, rm_2, rm_3, rm_4, rm_5, rc_9, rcs, fvs, rf_s, rf_n, isI_i, isL_l, isR_r, isR_n, isR_q, ct_i, ct_l, ct_r, ct_n, ct_q, tFs, tCs, tKs, tJs, tSs, e_nf, lgs, ↓reduceIte, true_and, and_true, false_and, and_false, or_true, true_or, false_or, or_false, Nat.reduceAdd, Nat.reduceEqDiff, Nat.reduceDiv, Nat.reduceLT, Nat.reduceLeDiff, Nat.zero_add, reduceCtorEq, Bool.false_eq_true, Option.toList_some, Option.toList_none, List.cons_append, List.nil_append, not_true_eq_false, not_false_eq_true, Nat.sub_zero, dsL_law_14, dsL_law_15, jsL_law_0, jsL_law_1, xcL_law, kx, c1, v1, c2, v2, c3, v3, c4, v4, c5, v5, nI_1, nIks]
  refine ⟨O, Ls, z, m, hN1, km, hW.w1, fun O2 M2 hN2 hF => ?_⟩
  have hM2 := hM1.out hF
  have km2 := hM2.1.1
  refine e_gs hG [(1235, [0, 1, 2, 3])] 120 ?_
  simp only [e_wps_s, xs_ia, xs_al, xs_a, xs_b, xs_c, Option.getD_some, Option.isSome_some, Option.isSome_none, xis0, xis1, xis2, xis3, xis4, e_ks, lk_k, lk_c, List.lookup_nil, gt_c, vi_i, k1_n, k1_c, k2_n, k2_c, ar_n, ar_c, pk_n, pk_c, rm_0, rm_1, rm_2, rm_3, rm_4, rm_5, rc_9, rcs, fvs, rf_s, rf_n, isI_i, isL_l, isR_r, isR_n, isR_q, ct_i, ct_l, ct_r, ct_n, ct_q, tFs, tCs, tKs, tJs, tSs, e_nf, lgs, ↓reduceIte, true_and, and_true, false_and, and_false, or_true, true_or, false_or, or_false, Nat.reduceAdd, Nat.reduceEqDiff, Nat.reduceDiv, Nat.reduceLT, Nat.reduceLeDiff, Nat.zero_add, reduceCtorEq, Bool.false_eq_true, Option.toList_some, Option.toList_none, List.cons_append, List.nil_append, not_true_eq_false, not_false_eq_true, Nat.sub_zero, dsL_law_15, jsL_law_0, jsL_law_1, xcL_law, km2, c1, v1, c2, v2, c3, v3, c4, v4, c5, v5, nI_1, nIks]
  refine ⟨A, O2, Ls, z, hM2, hW.wt, fun U hU hFU => ?_⟩
  rw [lev_eq hW] at hU ⊢
  refine e_gs hG [(1431, [0, 1, 2, 3])] 120 ?_
  simp only [e_wps_s, xs_ia, xs_al, xs_a, xs_b, xs_c, Option.getD_some, Option.isSome_some, Option.isSome_none, xis0, xis1, xis2, xis3, xis4, e_ks, lk_k, lk_c, List.lookup_nil, gt_c, vi_i, k1_n, k1_c, k2_n, k2_c, ar_n, ar_c, pk_n, pk_c, rm_0, rm_1, rm_2, rm_3, rm_4, rm_5, rc_9, rcs, fvs, rf_s, rf_n, isI_i, isL_l, isR_r, isR_n, isR_q, ct_i, ct_l, ct_r, ct_n, ct_q, tFs, tCs, tKs, tJs, tSs, e_nf, lgs, ↓reduceIte, true_and, and_true, false_and, and_false, or_true, true_or, false_or, or_false, Nat.reduceAdd, Nat.reduceEqDiff, Nat.reduceDiv, Nat.reduceLT, Nat.reduceLeDiff, Nat.zero_add, reduceCtorEq, Bool.false_eq_true, Option.toList_some, Option.toList_none, List.cons_append, List.nil_append, not_true_eq_false, not_false_eq_true, Nat.sub_zero, dsL_law_15, jsL_law_0, jsL_law_1, xcL_law, nI_1]
  exact hN _ _ _ _ _ _ _ ⟨hN2.ref hFU km2, hU, hW⟩ (by omega) (by omega)
set_option maxRecDepth 20000 in
theorem lc_value {Q : QT} {G : GT} {b L : Nat} {xs : Nat → Int32} {O : GH} {A : Nat → Nat} {M : HM} {x m i k n : Nat} {Ls : List SER} {z : Nat × Nat × Nat} (hG : e_cls b L xs 8 4 4 false cL_law csL_law Q G) (hi : i + 9 ≤ L) (hL : L ≤ 4608) (h : LI O A M x m Ls z) (hk : 98 ≤ k) (hn : 9600 ≤ n) (hN : ∀ O A M Ls z k' n', LI O A M x m Ls z → k - 98 ≤ k' → n - 9600 ≤ n' → G 1431 [(0, .ref b), (1, .ref x), (2, .ref m), (3, .int (nI i))] [] M k' n') : G 1241 [(0, .ref b), (1, .ref x), (2, .ref m), (3, .int (nI i))] [] M k n := by
  obtain ⟨hN1, hM1, hW⟩ := h
  have kx := hN1.ks.1
  have km := hM1.1.1
  have c1 : (nI (i + 1)).toNatClampNeg = i + 1 := nI_clamp (by omega)
  have v1 : vp_in (nI (i + 1)) L := vp_in_nI (by omega) (by omega)
  have c2 : (nI (i + 2)).toNatClampNeg = i + 2 := nI_clamp (by omega)
  have v2 : vp_in (nI (i + 2)) L := vp_in_nI (by omega) (by omega)
  have c3 : (nI (i + 3)).toNatClampNeg = i + 3 := nI_clamp (by omega)
  have v3 : vp_in (nI (i + 3)) L := vp_in_nI (by omega) (by omega)
  have c4 : (nI (i + 4)).toNatClampNeg = i + 4 := nI_clamp (by omega)
  have v4 : vp_in (nI (i + 4)) L := vp_in_nI (by omega) (by omega)
  by_cases cb : xs (i + 4) = 0
  · refine e_gs hG [(1273, [0, 1, 2, 3])] 120 ?_
    simp only [e_wps_s, xs_ia, xs_al, xs_a, xs_b, xs_c, Option.getD_some, Option.isSome_some, Option.isSome_none, xis0, xis1, xis2, xis3, xis4, e_ks, lk_k, lk_c, List.lookup_nil, gt_c, vi_i, k1_n, k1_c, k2_n, k2_c, ar_n, ar_c, pk_n, pk_c, rm_0, rm_1, rm_2, rm_3, rm_4, rm_5, rc_9, rcs, fvs, rf_s, rf_n, isI_i, isL_l, isR_r, isR_n, isR_q, ct_i, ct_l, ct_r, ct_n, ct_q, tFs, tCs, tKs, tJs, tSs, e_nf, lgs, ↓reduceIte, true_and, and_true, false_and, and_false, or_true, true_or, false_or, or_false, Nat.reduceAdd, Nat.reduceEqDiff, Nat.reduceDiv, Nat.reduceLT, Nat.reduceLeDiff, Nat.zero_add, reduceCtorEq, Bool.false_eq_true, Option.toList_some, Option.toList_none, List.cons_append, List.nil_append, not_true_eq_false, not_false_eq_true, Nat.sub_zero, dsL_law_15, dsL_law_16, jsL_law_0, jsL_law_1, xcL_law, kx, c1, v1, c2, v2, c3, v3, c4, v4, nI_1, nIks, cb]
    refine ⟨O, Ls, z, m, hN1, km, hW.w1, fun O2 M2 hN2 hF => ?_⟩
    have hM2 := hM1.out hF
    have km2 := hM2.1.1
    refine e_gs hG [(1305, [0, 1, 2, 3])] 120 ?_
    simp only [e_wps_s, xs_ia, xs_al, xs_a, xs_b, xs_c, Option.getD_some, Option.isSome_some, Option.isSome_none, xis0, xis1, xis2, xis3, xis4, e_ks, lk_k, lk_c, List.lookup_nil, gt_c, vi_i, k1_n, k1_c, k2_n, k2_c, ar_n, ar_c, pk_n, pk_c, rm_0, rm_1, rm_2, rm_3, rm_4, rm_5, rc_9, rcs, fvs, rf_s, rf_n, isI_i, isL_l, isR_r, isR_n, isR_q, ct_i, ct_l, ct_r, ct_n, ct_q, tFs, tCs, tKs, tJs, tSs, e_nf, lgs, ↓reduceIte, true_and, and_true, false_and, and_false, or_true, true_or, false_or, or_false, Nat.reduceAdd, Nat.reduceEqDiff, Nat.reduceDiv, Nat.reduceLT, Nat.reduceLeDiff, Nat.zero_add, reduceCtorEq, Bool.false_eq_true, Option.toList_some, Option.toList_none, List.cons_append, List.nil_append, not_true_eq_false, not_false_eq_true, Nat.sub_zero, dsL_law_16, jsL_law_0, jsL_law_1, xcL_law, km2, c1, v1, c2, v2, c3, v3, c4, v4, nI_1, nIks, cb]
    refine ⟨A, O2, Ls, z, hM2, hW.wt, fun U hU hFU => ?_⟩
    rw [val_eq hW] at hU ⊢
    refine e_gs hG [(1431, [0, 1, 2, 3])] 120 ?_
    simp only [e_wps_s, xs_ia, xs_al, xs_a, xs_b, xs_c, Option.getD_some, Option.isSome_some, Option.isSome_none, xis0, xis1, xis2, xis3, xis4, e_ks, lk_k, lk_c, List.lookup_nil, gt_c, vi_i, k1_n, k1_c, k2_n, k2_c, ar_n, ar_c, pk_n, pk_c, rm_0, rm_1, rm_2, rm_3, rm_4, rm_5, rc_9, rcs, fvs, rf_s, rf_n, isI_i, isL_l, isR_r, isR_n, isR_q, ct_i, ct_l, ct_r, ct_n, ct_q, tFs, tCs, tKs, tJs, tSs, e_nf, lgs, ↓reduceIte, true_and, and_true, false_and, and_false, or_true, true_or, false_or, or_false, Nat.reduceAdd, Nat.reduceEqDiff, Nat.reduceDiv, Nat.reduceLT, Nat.reduceLeDiff, Nat.zero_add, reduceCtorEq, Bool.false_eq_true, Option.toList_some, Option.toList_none, List.cons_append, List.nil_append, not_true_eq_false, not_false_eq_true, Nat.sub_zero, dsL_law_16, jsL_law_0, jsL_law_1, xcL_law, nI_1]
    exact hN _ _ _ _ _ _ _ ⟨hN2.ref hFU km2, hU, hW⟩ (by omega) (by omega)
  · refine e_gs hG [(1273, [0, 1, 2, 3])] 120 ?_
    simp only [e_wps_s, xs_ia, xs_al, xs_a, xs_b, xs_c, Option.getD_some, Option.isSome_some, Option.isSome_none, xis0, xis1, xis2, xis3, xis4, e_ks, lk_k, lk_c, List.lookup_nil, gt_c, vi_i, k1_n, k1_c, k2_n, k2_c, ar_n, ar_c, pk_n, pk_c, rm_0, rm_1, rm_2, rm_3, rm_4, rm_5, rc_9, rcs, fvs, rf_s, rf_n, isI_i, isL_l, isR_r, isR_n, isR_q, ct_i, ct_l, ct_r, ct_n, ct_q, tFs, tCs, tKs, tJs, tSs, e_nf, lgs, ↓reduceIte, true_and, and_true, false_and, and_false, or_true, true_or, false_or, or_false, Nat.reduceAdd, Nat.reduceEqDiff, Nat.reduceDiv, Nat.reduceLT, Nat.reduceLeDiff, Nat.zero_add, reduceCtorEq, Bool.false_eq_true, Option.toList_some, Option.toList_none, List.cons_append, List.nil_append, not_true_eq_false, not_false_eq_true, Nat.sub_zero, dsL_law_15, dsL_law_16, jsL_law_0, jsL_law_1, xcL_law, kx, c1, v1, c2, v2, c3, v3, c4, v4, nI_1, nIks, cb]
    refine ⟨O, Ls, z, m, hN1, km, hW.w1, fun O2 M2 hN2 hF => ?_⟩
    have hM2 := hM1.out hF
    have km2 := hM2.1.1
    refine e_gs hG [(1305, [0, 1, 2, 3])] 120 ?_
    simp only [e_wps_s, xs_ia, xs_al, xs_a, xs_b, xs_c, Option.getD_some, Option.isSome_some, Option.isSome_none, xis0, xis1, xis2, xis3, xis4, e_ks, lk_k, lk_c, List.lookup_nil, gt_c, vi_i, k1_n, k1_c, k2_n, k2_c, ar_n, ar_c, pk_n, pk_c, rm_0, rm_1, rm_2, rm_3, rm_4, rm_5, rc_9, rcs, fvs, rf_s, rf_n, isI_i, isL_l, isR_r, isR_n, isR_q, ct_i, ct_l, ct_r, ct_n, ct_q, tFs, tCs, tKs, tJs, tSs, e_nf, lgs, ↓reduceIte, true_and, and_true, false_and, and_false, or_true, true_or, false_or, or_false, Nat.reduceAdd, Nat.reduceEqDiff, Nat.reduceDiv, Nat.reduceLT, Nat.reduceLeDiff, Nat.zero_add, reduceCtorEq, Bool.false_eq_true, Option.toList_some, Option.toList_none, List.cons_append, List.nil_append, not_true_eq_false, not_false_eq_true, Nat.sub_zero, dsL_law_16, jsL_law_0, jsL_law_1, xcL_law, km2, c1, v1, c2, v2, c3, v3, c4, v4, nI_1, nIks, cb]
    refine ⟨A, O2, Ls, z, hM2, hW.wt, fun U hU hFU => ?_⟩
    rw [val_eq hW] at hU ⊢
    refine e_gs hG [(1431, [0, 1, 2, 3])] 120 ?_
    simp only [e_wps_s, xs_ia, xs_al, xs_a, xs_b, xs_c, Option.getD_some, Option.isSome_some, Option.isSome_none, xis0, xis1, xis2, xis3, xis4, e_ks, lk_k, lk_c, List.lookup_nil, gt_c, vi_i, k1_n, k1_c, k2_n, k2_c, ar_n, ar_c, pk_n, pk_c, rm_0, rm_1, rm_2, rm_3, rm_4, rm_5, rc_9, rcs, fvs, rf_s, rf_n, isI_i, isL_l, isR_r, isR_n, isR_q, ct_i, ct_l, ct_r, ct_n, ct_q, tFs, tCs, tKs, tJs, tSs, e_nf, lgs, ↓reduceIte, true_and, and_true, false_and, and_false, or_true, true_or, false_or, or_false, Nat.reduceAdd, Nat.reduceEqDiff, Nat.reduceDiv, Nat.reduceLT, Nat.reduceLeDiff, Nat.zero_add, reduceCtorEq, Bool.false_eq_true, Option.toList_some, Option.toList_none, List.cons_append, List.nil_append, not_true_eq_false, not_false_eq_true, Nat.sub_zero, dsL_law_16, jsL_law_0, jsL_law_1, xcL_law, nI_1]
    exact hN _ _ _ _ _ _ _ ⟨hN2.ref hFU km2, hU, hW⟩ (by omega) (by omega)
set_option maxRecDepth 20000 in
theorem lc_group {Q : QT} {G : GT} {b L : Nat} {xs : Nat → Int32} {O : GH} {A : Nat → Nat} {M : HM} {x m i k n : Nat} {Ls : List SER} {z : Nat × Nat × Nat} (hG : e_cls b L xs 8 4 4 false cL_law csL_law Q G) (hi : i + 9 ≤ L) (hL : L ≤ 4608) (h : LI O A M x m Ls z) (hk : 98 ≤ k) (hn : 9600 ≤ n) (hN : ∀ O A M Ls z k' n', LI O A M x m Ls z → k - 98 ≤ k' → n - 9600 ≤ n' → G 1431 [(0, .ref b), (1, .ref x), (2, .ref m), (3, .int (nI i))] [] M k' n') : G 1311 [(0, .ref b), (1, .ref x), (2, .ref m), (3, .int (nI i))] [] M k n := by
  obtain ⟨hN1, hM1, hW⟩ := h
  have kx := hN1.ks.1
  have km := hM1.1.1
  have c1 : (nI (i + 1)).toNatClampNeg = i + 1 := nI_clamp (by omega)
  have v1 : vp_in (nI (i + 1)) L := vp_in_nI (by omega) (by omega)
  have c2 : (nI (i + 2)).toNatClampNeg = i + 2 := nI_clamp (by omega)
  have v2 : vp_in (nI (i + 2)) L := vp_in_nI (by omega) (by omega)
  have c3 : (nI (i + 3)).toNatClampNeg = i + 3 := nI_clamp (by omega)
  have v3 : vp_in (nI (i + 3)) L := vp_in_nI (by omega) (by omega)
  have c4 : (nI (i + 4)).toNatClampNeg = i + 4 := nI_clamp (by omega)
  have v4 : vp_in (nI (i + 4)) L := vp_in_nI (by omega) (by omega)
  have c5 : (nI (i + 5)).toNatClampNeg = i + 5 := nI_clamp (by omega)
  have v5 : vp_in (nI (i + 5)) L := vp_in_nI (by omega) (by omega)
  refine e_gs hG [(1340, [0, 1, 2, 3])] 120 ?_
  simp only [e_wps_s, xs_ia, xs_al, xs_a, xs_b, xs_c, Option.getD_some, Option.isSome_some, Option.isSome_none, xis0, xis1, xis2, xis3, xis4, e_ks, lk_k, lk_c, List.lookup_nil, gt_c, vi_i, k1_n, k1_c, k2_n, k2_c, ar_n, ar_c, pk_n, pk_c, rm_0, rm_1, rm_2, rm_3, rm_4, rm_5, rc_9, rcs, fvs, rf_s, rf_n, isI_i, isL_l, isR_r, isR_n, isR_q, ct_i, ct_l, ct_r, ct_n, ct_q, tFs, tCs, tKs, tJs, tSs, e_nf, lgs, ↓reduceIte, true_and, and_true, false_and, and_false, or_true, true_or, false_or, or_false, Nat.reduceAdd, Nat.reduceEqDiff, Nat.reduceDiv, Nat.reduceLT, Nat.reduceLeDiff, Nat.zero_add, reduceCtorEq, Bool.false_eq_true, Option.toList_some, Option.toList_none, List.cons_append, List.nil_append, not_true_eq_false, not_false_eq_true, Nat.sub_zero, dsL_law_16, dsL_law_17, jsL_law_0, jsL_law_1, xcL_law, kx, c1, v1, c2, v2, c3, v3, c4, v4, c5, v5, nI_1, nIks]
  refine ⟨O, Ls, z, m, hN1, km, hW.w1, fun O2 M2 hN2 hF => ?_⟩
  have hM2 := hM1.out hF
  have km2 := hM2.1.1
  refine e_gs hG [(1369, [0, 1, 2, 3])] 120 ?_
  simp only [e_wps_s, xs_ia, xs_al, xs_a, xs_b, xs_c, Option.getD_some, Option.isSome_some, Option.isSome_none, xis0, xis1, xis2, xis3, xis4, e_ks, lk_k, lk_c, List.lookup_nil, gt_c, vi_i, k1_n, k1_c, k2_n, k2_c, ar_n, ar_c, pk_n, pk_c, rm_0, rm_1, rm_2, rm_3, rm_4, rm_5, rc_9, rcs, fvs, rf_s, rf_n, isI_i, isL_l, isR_r, isR_n, isR_q, ct_i, ct_l, ct_r, ct_n, ct_q, tFs, tCs, tKs, tJs, tSs, e_nf, lgs, ↓reduceIte, true_and, and_true, false_and, and_false, or_true, true_or, false_or, or_false, Nat.reduceAdd, Nat.reduceEqDiff, Nat.reduceDiv, Nat.reduceLT, Nat.reduceLeDiff, Nat.zero_add, reduceCtorEq, Bool.false_eq_true, Option.toList_some, Option.toList_none, List.cons_append, List.nil_append, not_true_eq_false, not_false_eq_true, Nat.sub_zero, dsL_law_17, jsL_law_0, jsL_law_1, xcL_law, km2, c1, v1, c2, v2, c3, v3, c4, v4, c5, v5, nI_1, nIks]
  refine ⟨A, O2, Ls, z, hM2, hW.wt, hW.sz, fun U hU hFU => ?_⟩
  rw [grp_eq hW hN1.2.1.2] at hU ⊢
  refine e_gs hG [(1431, [0, 1, 2, 3])] 120 ?_
  simp only [e_wps_s, xs_ia, xs_al, xs_a, xs_b, xs_c, Option.getD_some, Option.isSome_some, Option.isSome_none, xis0, xis1, xis2, xis3, xis4, e_ks, lk_k, lk_c, List.lookup_nil, gt_c, vi_i, k1_n, k1_c, k2_n, k2_c, ar_n, ar_c, pk_n, pk_c, rm_0, rm_1, rm_2, rm_3, rm_4, rm_5, rc_9, rcs, fvs, rf_s, rf_n, isI_i, isL_l, isR_r, isR_n, isR_q, ct_i, ct_l, ct_r, ct_n, ct_q, tFs, tCs, tKs, tJs, tSs, e_nf, lgs, ↓reduceIte, true_and, and_true, false_and, and_false, or_true, true_or, false_or, or_false, Nat.reduceAdd, Nat.reduceEqDiff, Nat.reduceDiv, Nat.reduceLT, Nat.reduceLeDiff, Nat.zero_add, reduceCtorEq, Bool.false_eq_true, Option.toList_some, Option.toList_none, List.cons_append, List.nil_append, not_true_eq_false, not_false_eq_true, Nat.sub_zero, dsL_law_17, jsL_law_0, jsL_law_1, xcL_law, nI_1]
  exact hN _ _ _ _ _ _ _ ⟨hN2.ref hFU km2, hU, hW⟩ (by omega) (by omega)
set_option maxRecDepth 20000 in
theorem lc_scan {Q : QT} {G : GT} {b L : Nat} {xs : Nat → Int32} {O : GH} {A : Nat → Nat} {M : HM} {x m i k n : Nat} {Ls : List SER} {z : Nat × Nat × Nat} (hG : e_cls b L xs 8 4 4 false cL_law csL_law Q G) (hi : i + 9 ≤ L) (hL : L ≤ 4608) (h : LI O A M x m Ls z) (hk : 98 ≤ k) (hn : 9600 ≤ n) (hN : ∀ O A M Ls z k' n', LI O A M x m Ls z → k - 98 ≤ k' → n - 9600 ≤ n' → G 1431 [(0, .ref b), (1, .ref x), (2, .ref m), (3, .int (nI i))] [] M k' n') : G 1375 [(0, .ref b), (1, .ref x), (2, .ref m), (3, .int (nI i))] [] M k n := by
  obtain ⟨hN1, hM1, hW⟩ := h
  have kx := hN1.ks.1
  have km := hM1.1.1
  have c1 : (nI (i + 1)).toNatClampNeg = i + 1 := nI_clamp (by omega)
  have v1 : vp_in (nI (i + 1)) L := vp_in_nI (by omega) (by omega)
  refine e_gs hG [(1384, [0, 1, 2, 3])] 120 ?_
  simp only [e_wps_s, xs_ia, xs_al, xs_a, xs_b, xs_c, Option.getD_some, Option.isSome_some, Option.isSome_none, xis0, xis1, xis2, xis3, xis4, e_ks, lk_k, lk_c, List.lookup_nil, gt_c, vi_i, k1_n, k1_c, k2_n, k2_c, ar_n, ar_c, pk_n, pk_c, rm_0, rm_1, rm_2, rm_3, rm_4, rm_5, rc_9, rcs, fvs, rf_s, rf_n, isI_i, isL_l, isR_r, isR_n, isR_q, ct_i, ct_l, ct_r, ct_n, ct_q, tFs, tCs, tKs, tJs, tSs, e_nf, lgs, ↓reduceIte, true_and, and_true, false_and, and_false, or_true, true_or, false_or, or_false, Nat.reduceAdd, Nat.reduceEqDiff, Nat.reduceDiv, Nat.reduceLT, Nat.reduceLeDiff, Nat.zero_add, reduceCtorEq, Bool.false_eq_true, Option.toList_some, Option.toList_none, List.cons_append, List.nil_append, not_true_eq_false, not_false_eq_true, Nat.sub_zero, dsL_law_17, jsL_law_0, jsL_law_1, xcL_law, kx, c1, v1, nI_1, nIks]
  refine ⟨O, Ls, _, _, _, hN1, ?_⟩
  have hN2 := hN1
  have hM2 := hM1
  have km2 := km
  refine e_gs hG [(1393, [0, 1, 2, 3])] 120 ?_
  simp only [e_wps_s, xs_ia, xs_al, xs_a, xs_b, xs_c, Option.getD_some, Option.isSome_some, Option.isSome_none, xis0, xis1, xis2, xis3, xis4, e_ks, lk_k, lk_c, List.lookup_nil, gt_c, vi_i, k1_n, k1_c, k2_n, k2_c, ar_n, ar_c, pk_n, pk_c, rm_0, rm_1, rm_2, rm_3, rm_4, rm_5, rc_9, rcs, fvs, rf_s, rf_n, isI_i, isL_l, isR_r, isR_n, isR_q, ct_i, ct_l, ct_r, ct_n, ct_q, tFs, tCs, tKs, tJs, tSs, e_nf, lgs, ↓reduceIte, true_and, and_true, false_and, and_false, or_true, true_or, false_or, or_false, Nat.reduceAdd, Nat.reduceEqDiff, Nat.reduceDiv, Nat.reduceLT, Nat.reduceLeDiff, Nat.zero_add, reduceCtorEq, Bool.false_eq_true, Option.toList_some, Option.toList_none, List.cons_append, List.nil_append, not_true_eq_false, not_false_eq_true, Nat.sub_zero, dsL_law_17, jsL_law_0, jsL_law_1, xcL_law, km2, c1, v1, nI_1, nIks]
  refine ⟨km2, ?_⟩
  have hs : ∀ w : Int32, (if w = 0 then mI M 248 m else if w = 1 then mI M 249 m else if w = 2 then mI M 250 m else -1) = aScan z.1 z.2.1 z.2.2 w := fun w => by unfold aScan; rw [hM2.2.2.2.2.2.1, hM2.2.2.2.2.2.2.1, hM2.2.2.2.2.2.2.2]
  rw [hs]
  refine e_gs hG [(1431, [0, 1, 2, 3])] 120 ?_
  simp only [e_wps_s, xs_ia, xs_al, xs_a, xs_b, xs_c, Option.getD_some, Option.isSome_some, Option.isSome_none, xis0, xis1, xis2, xis3, xis4, e_ks, lk_k, lk_c, List.lookup_nil, gt_c, vi_i, k1_n, k1_c, k2_n, k2_c, ar_n, ar_c, pk_n, pk_c, rm_0, rm_1, rm_2, rm_3, rm_4, rm_5, rc_9, rcs, fvs, rf_s, rf_n, isI_i, isL_l, isR_r, isR_n, isR_q, ct_i, ct_l, ct_r, ct_n, ct_q, tFs, tCs, tKs, tJs, tSs, e_nf, lgs, ↓reduceIte, true_and, and_true, false_and, and_false, or_true, true_or, false_or, or_false, Nat.reduceAdd, Nat.reduceEqDiff, Nat.reduceDiv, Nat.reduceLT, Nat.reduceLeDiff, Nat.zero_add, reduceCtorEq, Bool.false_eq_true, Option.toList_some, Option.toList_none, List.cons_append, List.nil_append, not_true_eq_false, not_false_eq_true, Nat.sub_zero, dsL_law_17, dsL_law_18, jsL_law_0, jsL_law_1, xcL_law, nI_1]
  exact hN _ _ _ _ _ _ _ ⟨hN2, hM2, hW⟩ (by omega) (by omega)
set_option maxRecDepth 20000 in
theorem lc_about {Q : QT} {G : GT} {b L : Nat} {xs : Nat → Int32} {O : GH} {A : Nat → Nat} {M : HM} {x m i k n : Nat} {Ls : List SER} {z : Nat × Nat × Nat} (hG : e_cls b L xs 8 4 4 false cL_law csL_law Q G) (hi : i + 9 ≤ L) (hL : L ≤ 4608) (h : LI O A M x m Ls z) (hk : 98 ≤ k) (hn : 9600 ≤ n) (hN : ∀ O A M Ls z k' n', LI O A M x m Ls z → k - 98 ≤ k' → n - 9600 ≤ n' → G 1431 [(0, .ref b), (1, .ref x), (2, .ref m), (3, .int (nI i))] [] M k' n') : G 1398 [(0, .ref b), (1, .ref x), (2, .ref m), (3, .int (nI i))] [] M k n := by
  obtain ⟨hN1, hM1, hW⟩ := h
  have kx := hN1.ks.1
  have km := hM1.1.1
  have c1 : (nI (i + 1)).toNatClampNeg = i + 1 := nI_clamp (by omega)
  have v1 : vp_in (nI (i + 1)) L := vp_in_nI (by omega) (by omega)
  have c2 : (nI (i + 2)).toNatClampNeg = i + 2 := nI_clamp (by omega)
  have v2 : vp_in (nI (i + 2)) L := vp_in_nI (by omega) (by omega)
  refine e_gs hG [(1412, [0, 1, 2, 3])] 120 ?_
  simp only [e_wps_s, xs_ia, xs_al, xs_a, xs_b, xs_c, Option.getD_some, Option.isSome_some, Option.isSome_none, xis0, xis1, xis2, xis3, xis4, e_ks, lk_k, lk_c, List.lookup_nil, gt_c, vi_i, k1_n, k1_c, k2_n, k2_c, ar_n, ar_c, pk_n, pk_c, rm_0, rm_1, rm_2, rm_3, rm_4, rm_5, rc_9, rcs, fvs, rf_s, rf_n, isI_i, isL_l, isR_r, isR_n, isR_q, ct_i, ct_l, ct_r, ct_n, ct_q, tFs, tCs, tKs, tJs, tSs, e_nf, lgs, ↓reduceIte, true_and, and_true, false_and, and_false, or_true, true_or, false_or, or_false, Nat.reduceAdd, Nat.reduceEqDiff, Nat.reduceDiv, Nat.reduceLT, Nat.reduceLeDiff, Nat.zero_add, reduceCtorEq, Bool.false_eq_true, Option.toList_some, Option.toList_none, List.cons_append, List.nil_append, not_true_eq_false, not_false_eq_true, Nat.sub_zero, dsL_law_18, jsL_law_0, jsL_law_1, xcL_law, kx, c1, v1, c2, v2, nI_1, nIks]
  refine ⟨O, Ls, _, _, _, hN1, ?_⟩
  have hN2 := hN1
  have hM2 := hM1
  have km2 := km
  refine e_gs hG [(1426, [0, 1, 2, 3])] 120 ?_
  simp only [e_wps_s, xs_ia, xs_al, xs_a, xs_b, xs_c, Option.getD_some, Option.isSome_some, Option.isSome_none, xis0, xis1, xis2, xis3, xis4, e_ks, lk_k, lk_c, List.lookup_nil, gt_c, vi_i, k1_n, k1_c, k2_n, k2_c, ar_n, ar_c, pk_n, pk_c, rm_0, rm_1, rm_2, rm_3, rm_4, rm_5, rc_9, rcs, fvs, rf_s, rf_n, isI_i, isL_l, isR_r, isR_n, isR_q, ct_i, ct_l, ct_r, ct_n, ct_q, tFs, tCs, tKs, tJs, tSs, e_nf, lgs, ↓reduceIte, true_and, and_true, false_and, and_false, or_true, true_or, false_or, or_false, Nat.reduceAdd, Nat.reduceEqDiff, Nat.reduceDiv, Nat.reduceLT, Nat.reduceLeDiff, Nat.zero_add, reduceCtorEq, Bool.false_eq_true, Option.toList_some, Option.toList_none, List.cons_append, List.nil_append, not_true_eq_false, not_false_eq_true, Nat.sub_zero, dsL_law_18, jsL_law_0, jsL_law_1, xcL_law, km2, c1, v1, c2, v2, nI_1, nIks]
  refine ⟨A, O, Ls, z, hM2, hW.wt, fun U hU hFU => ?_⟩
  refine e_gs hG [(1431, [0, 1, 2, 3])] 120 ?_
  simp only [e_wps_s, xs_ia, xs_al, xs_a, xs_b, xs_c, Option.getD_some, Option.isSome_some, Option.isSome_none, xis0, xis1, xis2, xis3, xis4, e_ks, lk_k, lk_c, List.lookup_nil, gt_c, vi_i, k1_n, k1_c, k2_n, k2_c, ar_n, ar_c, pk_n, pk_c, rm_0, rm_1, rm_2, rm_3, rm_4, rm_5, rc_9, rcs, fvs, rf_s, rf_n, isI_i, isL_l, isR_r, isR_n, isR_q, ct_i, ct_l, ct_r, ct_n, ct_q, tFs, tCs, tKs, tJs, tSs, e_nf, lgs, ↓reduceIte, true_and, and_true, false_and, and_false, or_true, true_or, false_or, or_false, Nat.reduceAdd, Nat.reduceEqDiff, Nat.reduceDiv, Nat.reduceLT, Nat.reduceLeDiff, Nat.zero_add, reduceCtorEq, Bool.false_eq_true, Option.toList_some, Option.toList_none, List.cons_append, List.nil_append, not_true_eq_false, not_false_eq_true, Nat.sub_zero, dsL_law_18, jsL_law_0, jsL_law_1, xcL_law, nI_1]
  exact hN _ _ _ _ _ _ _ ⟨hN2.ref hFU km2, hU, hW⟩ (by omega) (by omega)
