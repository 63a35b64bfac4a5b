/-! the law's loop, and its start -/
set_option maxRecDepth 20000 in
theorem l_loop {Q : QT} {G : GT} {b L : Nat} {xs : Nat → Int32} (hG : e_cls b L xs 8 4 4 false cL_law csL_law Q G) (hL : L ≤ 4608) (hQ : ∀ M k n, Q (some (.int 1)) M k n) {x m : Nat} : ∀ (d i : Nat) (O : GH) (A : Nat → Nat) (M : HM) (Ls : List SER) (z : Nat × Nat × Nat) (k n : Nat), L < i + 9 * (d + 1) → i ≤ L + 9 → LI O A M x m Ls z → 98 * d ≤ k → 9600 * d ≤ n → G 18 [(0, .ref b), (1, .ref x), (2, .ref m), (3, .int (nI i))] [] M k n := by
  have hnl : (nI L).toInt = (L : Int) := nI_toInt (by omega)
  have hs9 : (Int32.ofNat L - 9).toInt = (L : Int) - 9 := by
    have e := i_sub_toInt (x := nI L) (y := 9) (by rw [hnl, show (9 : Int32).toInt = 9 from rfl]; omega) (by rw [hnl, show (9 : Int32).toInt = 9 from rfl]; omega)
    rw [hnl, show (9 : Int32).toInt = 9 from rfl] at e
    exact e
  have exit : ∀ i M k n, L < i + 9 → i ≤ L + 9 → G 18 [(0, .ref b), (1, .ref x), (2, .ref m), (3, .int (nI i))] [] M k n := by
    intro i M k n h1 h2
    have e1 : Int32.ofNat L - 9 < nI i := by rw [Int32.lt_iff_toInt_lt, hs9, nI_toInt (by omega)]; omega
    refine e_gs hG [] 60 ?_
    simp only [e_wps_s, xs_ia, xs_al, xs_a, xs_b, xs_c, Option.getD_some, Option.isSome_some, Option.isSome_none, xis0, xis1, xis2, xis3, xis4, e_ks, lk_k, lk_c, List.lookup_nil, gt_c, vi_i, k1_n, k1_c, k2_n, k2_c, ar_n, ar_c, pk_n, pk_c, rm_0, rm_1, rm_2, rm_3, rm_4, rm_5, rc_9, rcs, fvs, rf_s, rf_n, isI_i, isL_l, isR_r, isR_n, isR_q, ct_i, ct_l, ct_r, ct_n, ct_q, tFs, tCs, tKs, tJs, tSs, e_nf, lgs, ↓reduceIte, true_and, and_true, false_and, and_false, or_true, true_or, false_or, or_false, Nat.reduceAdd, Nat.reduceEqDiff, Nat.reduceDiv, Nat.reduceLT, Nat.reduceLeDiff, Nat.zero_add, reduceCtorEq, Bool.false_eq_true, Option.toList_some, Option.toList_none, List.cons_append, List.nil_append, not_true_eq_false, not_false_eq_true, Nat.sub_zero, dsL_law_0, dsL_law_18, jsL_law_0, jsL_law_1, xcL_law, e1]
    exact hQ M k n
  intro d
  induction d with
  | zero => exact fun i O A M Ls z k n h1 h2 _ _ _ => exit i M k n (by omega) h2
  | succ d ih =>
    intro i O A M Ls z k n h1 h2 h hk hn
    by_cases c : i + 9 ≤ L
    · have e1 : ¬ Int32.ofNat L - 9 < nI i := by rw [Int32.lt_iff_toInt_lt, hs9, nI_toInt (by omega)]; omega
      have c0 : (nI i).toNatClampNeg = i := nI_clamp (by omega)
      have v0 : vp_in (nI i) L := vp_in_nI (by omega) (by omega)
      have hN : ∀ O A M Ls z k' n', LI O A M x m Ls z → k - 98 ≤ k' → n - 9600 ≤ n' → G 1431 [(0, .ref b), (1, .ref x), (2, .ref m), (3, .int (nI i))] [] M k' n' := by
        intro O A M Ls z k' n' h' hk' hn'
        refine e_gs hG [(18, [0, 1, 2, 3])] 20 ?_
        simp only [e_wps_s, xs_ia, xs_al, xs_a, xs_b, xs_c, Option.getD_some, Option.isSome_some, Option.isSome_none, xis0, xis1, xis2, xis3, xis4, e_ks, lk_k, lk_c, List.lookup_nil, gt_c, vi_i, k1_n, k1_c, k2_n, k2_c, ar_n, ar_c, pk_n, pk_c, rm_0, rm_1, rm_2, rm_3, rm_4, rm_5, rc_9, rcs, fvs, rf_s, rf_n, isI_i, isL_l, isR_r, isR_n, isR_q, ct_i, ct_l, ct_r, ct_n, ct_q, tFs, tCs, tKs, tJs, tSs, e_nf, lgs, ↓reduceIte, true_and, and_true, false_and, and_false, or_true, true_or, false_or, or_false, Nat.reduceAdd, Nat.reduceEqDiff, Nat.reduceDiv, Nat.reduceLT, Nat.reduceLeDiff, Nat.zero_add, reduceCtorEq, Bool.false_eq_true, Option.toList_some, Option.toList_none, List.cons_append, List.nil_append, not_true_eq_false, not_false_eq_true, Nat.sub_zero, dsL_law_18, jsL_law_0, jsL_law_1, xcL_law, nIks]
        exact ih (i + 9) O A M Ls z k' n' (by omega) (by omega) h' (by omega) (by omega)
      refine e_gs hG [(148, [0, 1, 2, 3]), (171, [0, 1, 2, 3]), (214, [0, 1, 2, 3]), (277, [0, 1, 2, 3]), (350, [0, 1, 2, 3]), (489, [0, 1, 2, 3]), (512, [0, 1, 2, 3]), (555, [0, 1, 2, 3]), (588, [0, 1, 2, 3]), (631, [0, 1, 2, 3]), (675, [0, 1, 2, 3]), (718, [0, 1, 2, 3]), (771, [0, 1, 2, 3]), (814, [0, 1, 2, 3]), (868, [0, 1, 2, 3]), (912, [0, 1, 2, 3]), (956, [0, 1, 2, 3]), (999, [0, 1, 2, 3]), (1043, [0, 1, 2, 3]), (1113, [0, 1, 2, 3]), (1157, [0, 1, 2, 3]), (1241, [0, 1, 2, 3]), (1311, [0, 1, 2, 3]), (1375, [0, 1, 2, 3]), (1398, [0, 1, 2, 3]), (1431, [0, 1, 2, 3])] 60 ?_
      simp only [e_wps_s, xs_ia, xs_al, xs_a, xs_b, xs_c, Option.getD_some, Option.isSome_some, Option.isSome_none, xis0, xis1, xis2, xis3, xis4, e_ks, lk_k, lk_c, List.lookup_nil, gt_c, vi_i, k1_n, k1_c, k2_n, k2_c, ar_n, ar_c, pk_n, pk_c, rm_0, rm_1, rm_2, rm_3, rm_4, rm_5, rc_9, rcs, fvs, rf_s, rf_n, isI_i, isL_l, isR_r, isR_n, isR_q, ct_i, ct_l, ct_r, ct_n, ct_q, tFs, tCs, tKs, tJs, tSs, e_nf, lgs, ↓reduceIte, true_and, and_true, false_and, and_false, or_true, true_or, false_or, or_false, Nat.reduceAdd, Nat.reduceEqDiff, Nat.reduceDiv, Nat.reduceLT, Nat.reduceLeDiff, Nat.zero_add, reduceCtorEq, Bool.false_eq_true, Option.toList_some, Option.toList_none, List.cons_append, List.nil_append, not_true_eq_false, not_false_eq_true, Nat.sub_zero, dsL_law_0, jsL_law_0, jsL_law_1, xcL_law, e1, c0, v0, e_tw, Int.reduceAdd]
      refine ⟨rfl, ?_⟩
      exact it_2 _ (fun _ => lc_series hG c hL h (by omega) (by omega) hN) (fun _ => it_2 _ (fun _ => lc_label hG c hL h (by omega) (by omega) hN) (fun _ => it_2 _ (fun _ => lc_match hG c hL h (by omega) (by omega) hN) (fun _ => it_2 _ (fun _ => lc_put hG c hL h (by omega) (by omega) hN) (fun _ => it_2 _ (fun _ => lc_fill hG c hL h (by omega) (by omega) hN) (fun _ => it_2 _ (fun _ => lc_merge hG c hL h (by omega) (by omega) hN) (fun _ => it_2 _ (fun _ => lc_thin hG c hL h (by omega) (by omega) hN) (fun _ => it_2 _ (fun _ => lc_drop hG c hL h (by omega) (by omega) hN) (fun _ => it_2 _ (fun _ => lc_block hG c hL h (by omega) (by omega) hN) (fun _ => it_2 _ (fun _ => lc_head hG c hL h (by omega) (by omega) hN) (fun _ => it_2 _ (fun _ => lc_at hG c hL h (by omega) (by omega) hN) (fun _ => it_2 _ (fun _ => lc_tear hG c hL h (by omega) (by omega) hN) (fun _ => it_2 _ (fun _ => lc_cost hG c hL h (by omega) (by omega) hN) (fun _ => it_2 _ (fun _ => lc_point hG c hL h (by omega) (by omega) hN) (fun _ => it_2 _ (fun _ => lc_late hG c hL h (by omega) (by omega) hN) (fun _ => it_2 _ (fun _ => lc_span hG c hL h (by omega) (by omega) hN) (fun _ => it_2 _ (fun _ => lc_count hG c hL h (by omega) (by omega) hN) (fun _ => it_2 _ (fun _ => lc_sum hG c hL h (by omega) (by omega) hN) (fun _ => it_2 _ (fun _ => lc_least hG c hL h (by omega) (by omega) hN) (fun _ => it_2 _ (fun _ => lc_rise hG c hL h (by omega) (by omega) hN) (fun _ => it_2 _ (fun _ => lc_level hG c hL h (by omega) (by omega) hN) (fun _ => it_2 _ (fun _ => lc_value hG c hL h (by omega) (by omega) hN) (fun _ => it_2 _ (fun _ => lc_group hG c hL h (by omega) (by omega) hN) (fun _ => it_2 _ (fun _ => lc_scan hG c hL h (by omega) (by omega) hN) (fun _ => it_2 _ (fun _ => lc_about hG c hL h (by omega) (by omega) hN) (fun _ => hN O A M Ls z k n h (by omega) (by omega))))))))))))))))))))))))))
    · exact exit i M k n (by omega) h2
set_option maxRecDepth 20000 in
theorem l_start {Q : QT} {G : GT} {b L : Nat} {xs : Nat → Int32} (hG : e_cls b L xs 8 4 4 false cL_law csL_law Q G) (hL : L ≤ 4608) (hQ : ∀ M k n, Q (some (.int 1)) M k n) {M : HM} : G 0 [(0, .ref b)] [] M 600000 7302250 := by
  refine e_gs hG [(7, [0])] 20 ?_
  simp only [e_wps_s, xs_ia, xs_al, xs_a, xs_b, xs_c, Option.getD_some, Option.isSome_some, Option.isSome_none, xis0, xis1, xis2, xis3, xis4, e_ks, lk_k, lk_c, List.lookup_nil, gt_c, vi_i, k1_n, k1_c, k2_n, k2_c, ar_n, ar_c, pk_n, pk_c, rm_0, rm_1, rm_2, rm_3, rm_4, rm_5, rc_9, rcs, fvs, rf_s, rf_n, isI_i, isL_l, isR_r, isR_n, isR_q, ct_i, ct_l, ct_r, ct_n, ct_q, tFs, tCs, tKs, tJs, tSs, e_nf, lgs, ↓reduceIte, true_and, and_true, false_and, and_false, or_true, true_or, false_or, or_false, Nat.reduceAdd, Nat.reduceEqDiff, Nat.reduceDiv, Nat.reduceLT, Nat.reduceLeDiff, Nat.zero_add, reduceCtorEq, Bool.false_eq_true, Option.toList_some, Option.toList_none, List.cons_append, List.nil_append, not_true_eq_false, not_false_eq_true, Nat.sub_zero, dsL_law_0, jsL_law_0, jsL_law_1, xcL_law, hmK, hmN, hmI, hmL, hmR, haI, haL, haR]
  intro x hx
  refine ⟨fun a => (a, a), by simp only [hmK, if_true], rfl, by decide, by decide, fun P M1 hN1 hF1 => ?_⟩
  have kx := hN1.ks.1
  refine e_gs hG [(15, [0, 1])] 20 ?_
  simp only [e_wps_s, xs_ia, xs_al, xs_a, xs_b, xs_c, Option.getD_some, Option.isSome_some, Option.isSome_none, xis0, xis1, xis2, xis3, xis4, e_ks, lk_k, lk_c, List.lookup_nil, gt_c, vi_i, k1_n, k1_c, k2_n, k2_c, ar_n, ar_c, pk_n, pk_c, rm_0, rm_1, rm_2, rm_3, rm_4, rm_5, rc_9, rcs, fvs, rf_s, rf_n, isI_i, isL_l, isR_r, isR_n, isR_q, ct_i, ct_l, ct_r, ct_n, ct_q, tFs, tCs, tKs, tJs, tSs, e_nf, lgs, ↓reduceIte, true_and, and_true, false_and, and_false, or_true, true_or, false_or, or_false, Nat.reduceAdd, Nat.reduceEqDiff, Nat.reduceDiv, Nat.reduceLT, Nat.reduceLeDiff, Nat.zero_add, reduceCtorEq, Bool.false_eq_true, Option.toList_some, Option.toList_none, List.cons_append, List.nil_append, not_true_eq_false, not_false_eq_true, Nat.sub_zero, dsL_law_0, jsL_law_0, jsL_law_1, xcL_law, hmK, hmN, hmI, hmL, hmR, haI, haL, haR]
  refine ⟨by decide, by decide, fun m hm => ?_⟩
  refine ⟨O1 P m (m, m), by simp only [hmK, if_true], by unfold O1; rw [if_pos rfl], by decide, by decide, fun A O3 M3 hM3 hF3 => ?_⟩
  have hF0 : Fr (fun _ _ => False) P (O1 P m (m, m)) M1 (nO M1 7 m) := fun a ha => by
    have han : a ≠ m := fun e => ha (by rw [e]; exact hm)
    exact ⟨by simp only [hmK]; rw [if_neg han], by unfold O1; rw [if_neg han], fun _ => sm_nO han Sm.rf⟩
  have hN2 := hN1.out0 hF0 (fun _ _ h => h)
  have hF4 : Fr (Ss m) (O1 P m (m, m)) O3 (nO M1 7 m) M3 := hF3.sub (fun a _ e => by
    show (O1 P m (m, m) a).1 = m
    unfold O1; rw [if_pos e])
  have hN3 := hN2.ref hF4 (by simp only [hmK, if_true])
  refine e_gs hG [(18, [0, 1, 2, 3])] 20 ?_
  simp only [e_wps_s, xs_ia, xs_al, xs_a, xs_b, xs_c, Option.getD_some, Option.isSome_some, Option.isSome_none, xis0, xis1, xis2, xis3, xis4, e_ks, lk_k, lk_c, List.lookup_nil, gt_c, vi_i, k1_n, k1_c, k2_n, k2_c, ar_n, ar_c, pk_n, pk_c, rm_0, rm_1, rm_2, rm_3, rm_4, rm_5, rc_9, rcs, fvs, rf_s, rf_n, isI_i, isL_l, isR_r, isR_n, isR_q, ct_i, ct_l, ct_r, ct_n, ct_q, tFs, tCs, tKs, tJs, tSs, e_nf, lgs, ↓reduceIte, true_and, and_true, false_and, and_false, or_true, true_or, false_or, or_false, Nat.reduceAdd, Nat.reduceEqDiff, Nat.reduceDiv, Nat.reduceLT, Nat.reduceLeDiff, Nat.zero_add, reduceCtorEq, Bool.false_eq_true, Option.toList_some, Option.toList_none, List.cons_append, List.nil_append, not_true_eq_false, not_false_eq_true, Nat.sub_zero, dsL_law_0, jsL_law_0, jsL_law_1, xcL_law, nI_1]
  exact l_loop hG hL hQ (L / 9) 0 O3 A M3 [] (0, 0, 0) _ _ (by omega) (by omega) ⟨hN3, hM3, fun _ h => (by cases h)⟩ (by omega) (by omega)
