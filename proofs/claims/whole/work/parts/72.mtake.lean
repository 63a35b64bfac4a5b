/-! the reference: all points taken; blocks looked at -/
def AL (A : Nat → Nat) (U : HM) (m : Nat) (T : List PT) : Prop := mI U 253 m = nI T.length ∧ T.length ≤ 340 ∧ rdf (fun i => (aI U (A 251) i, aL U (A 252) i)) 0 T.length = T
def csX7_add : CS := cs_0
theorem csoX7_add : ∀ op x na cl sp, csX7_add op x = some (na, cl, sp) → CallOK 7 0 0 op x na cl sp := cs_0_ok
def sp_X7_add : SP := fun as M k n Q => match as with
  | [.ref m, .int t, .long v] => ∃ O A T, MS A M m ∧ GO O A m ∧ AL A M m T ∧ T.length < 340 ∧ ∀ U, MC O A m [251, 252, 253] M U → AL A U m (T ++ [(t, v)]) → Q none U k n
  | _ => False
theorem okX7_add : OkX7_add sp_X7_add := by
  refine inX7_add csoX7_add ?_
  intro as M k n Q hsp
  unfold sp_X7_add at hsp
  split at hsp
  rotate_left
  · exact hsp.elim
  rename_i m t v
  obtain ⟨O, A, T, hM, hO, hT, hl, hq⟩ := hsp
  have h0 := hM.1
  obtain ⟨r251, k251, l251⟩ : mR M 251 m = some (A 251) ∧ mK M (A 251) = 9 ∧ mN M (A 251) = 350 := hM.2 251 rfl
  obtain ⟨r252, k252, l252⟩ : mR M 252 m = some (A 252) ∧ mK M (A 252) = 10 ∧ mN M (A 252) = 350 := hM.2 252 rfl
  have n251_252 : ¬ A 251 = A 252 := hO.ne (f := 251) (g := 252) rfl rfl (by decide)
  have n252_251 : ¬ A 252 = A 251 := hO.ne (f := 252) (g := 251) rfl rfl (by decide)
  have hc := hT.1
  have e1 : (nI T.length).toNatClampNeg = T.length := nI_clamp (by omega)
  have e2 : vp_in (nI T.length) 350 := vp_in_nI (by omega) (by decide)
  refine ⟨0, 0, Nat.zero_le _, Nat.zero_le _, Nat.le_of_ble_eq_true rfl, fun G hG => ?_⟩
  refine e_g2 hG [] 60 ?_
  simp only [e_wp_s, Option.getD_some, Option.isSome_some, Option.isSome_none, xis0, xis1, xis2, xis3, xis4, e_ks, lk_k, lk_c, List.lookup_nil, gt_c, vi_i, k1_n, k1_c, k2_n, k2_c, ar_n, ar_c, pk_n, pk_c, rm_0, rm_1, rm_2, rm_3, rm_4, rm_5, rc_9, rcs, fvs, rf_s, rf_n, isI_i, isL_l, isR_r, isR_n, isR_q, ct_i, ct_l, ct_r, ct_n, ct_q, tFs, tCs, tKs, tJs, tSs, e_nf, lgs, ↓reduceIte, true_and, and_true, false_and, and_false, or_true, true_or, false_or, or_false, Nat.reduceAdd, Nat.reduceEqDiff, Nat.reduceDiv, Nat.reduceLT, Nat.reduceLeDiff, Nat.zero_add, reduceCtorEq, Bool.false_eq_true, Option.toList_some, Option.toList_none, List.cons_append, List.nil_append, not_true_eq_false, not_false_eq_true, Nat.sub_zero, dsX7_add, h0, r251, k251, l251, r252, k252, l252, hc, e1, e2, hmK, hmN, hmI, hmL, hmR, haI, haL, haR, nI_1]
  refine hq _ (MC.sI (MC.tL (MC.tI MC.rf hO (by decide) rfl) hO (by decide) rfl) hO (by decide)) ⟨?_, ?_, ?_⟩
  · simp only [hmI, and_self, if_true, List.length_append]; rfl
  · rw [List.length_append]; simp only [List.length_cons, List.length_nil]; omega
  · rw [List.length_append]
    show rdf _ 0 (T.length + 1) = _
    rw [rdf_snoc]
    congr 1
    · refine (rdf_ext _ _ _ (fun i hi => ?_)).trans hT.2.2
      simp only [haI, haL, true_and, Nat.zero_add]
      rw [if_neg (show ¬ i = T.length by omega), if_neg (show ¬ i = T.length by omega)]
    · simp only [haI, haL, Nat.zero_add, and_self, if_true]
def takA (lt pts : List PT) : List PT := (pts.foldl (gm lt) ([], 0)).1 ++ lt.drop (pts.foldl (gm lt) ([], 0)).2
def csX7_take : CS := (cs_c 0 122 3 7 sp_X7_isTorn (cs_c 0 115 3 7 sp_X7_start (cs_c 0 111 3 7 sp_X7_spot (cs_c 0 215 3 7 sp_X7_add cs_0))))
theorem csoX7_take : ∀ op x na cl sp, csX7_take op x = some (na, cl, sp) → CallOK 7 3 68 op x na cl sp := (cs_c_ok (caX7_take_122 okX7_isTorn) (cs_c_ok (caX7_take_115 okX7_start) (cs_c_ok (caX7_take_111 okX7_spot) (cs_c_ok (caX7_take_215 okX7_add) cs_0_ok))))
theorem xcX7_take : (∀ (Q : QT) (G : GT) (pc : Nat) (L : LV) (a0 a1 a2 : Value) (r : List Value) (M : HM) (k n : Nat), ex_i 7 6 0 false csX7_take Q G (.invokevirtual 122) pc L (a2 :: a1 :: a0 :: r) M k n = (e_rm r ∧ e_rc M 7 [a0, a1, a2] ∧ sp_X7_isTorn [a0, a1, a2] M k n (fun v M' k' n' => G (pc + 3) L (v.toList ++ r) M' k' n'))) ∧ (∀ (Q : QT) (G : GT) (pc : Nat) (L : LV) (a0 a1 a2 : Value) (r : List Value) (M : HM) (k n : Nat), ex_i 7 6 0 false csX7_take Q G (.invokevirtual 115) pc L (a2 :: a1 :: a0 :: r) M k n = (e_rm r ∧ e_rc M 7 [a0, a1, a2] ∧ sp_X7_start [a0, a1, a2] M k n (fun v M' k' n' => G (pc + 3) L (v.toList ++ r) M' k' n'))) ∧ (∀ (Q : QT) (G : GT) (pc : Nat) (L : LV) (a0 a1 a2 : Value) (r : List Value) (M : HM) (k n : Nat), ex_i 7 6 0 false csX7_take Q G (.invokevirtual 111) pc L (a2 :: a1 :: a0 :: r) M k n = (e_rm r ∧ e_rc M 7 [a0, a1, a2] ∧ sp_X7_spot [a0, a1, a2] M k n (fun v M' k' n' => G (pc + 3) L (v.toList ++ r) M' k' n'))) ∧ (∀ (Q : QT) (G : GT) (pc : Nat) (L : LV) (a0 a1 a2 : Value) (r : List Value) (M : HM) (k n : Nat), ex_i 7 6 0 false csX7_take Q G (.invokevirtual 215) pc L (a2 :: a1 :: a0 :: r) M k n = (e_rm r ∧ e_rc M 7 [a0, a1, a2] ∧ sp_X7_add [a0, a1, a2] M k n (fun v M' k' n' => G (pc + 3) L (v.toList ++ r) M' k' n'))) := ⟨(fun _ _ _ _ _ _ _ _ _ _ _ => xv0_3 rfl), (fun _ _ _ _ _ _ _ _ _ _ _ => xv0_3 rfl), (fun _ _ _ _ _ _ _ _ _ _ _ => xv0_3 rfl), (fun _ _ _ _ _ _ _ _ _ _ _ => xv0_3 rfl)⟩
def sp_X7_take : SP := fun as M k n Q => match as with
  | [.ref m, .int i] => ∃ O A s S, MS A M m ∧ GO O A m ∧ s < 8 ∧ MSer A M s S ∧ i = nI s ∧ ∀ U, MC O A m [251, 252, 253] M U → AL A U m (takA S.2.2.2.2 (mpts (unt S.2.2.2.1))) → Q none U k n
  | _ => False
theorem okX7_take : OkX7_take sp_X7_take := by
  refine inX7_take csoX7_take ?_
  intro as M k n Q hsp
  unfold sp_X7_take at hsp
  split at hsp
  rotate_left
  · exact hsp.elim
  rename_i m i
  obtain ⟨O, A, s, S, hM, hO, hs, hS, rfl, hq⟩ := hsp
  obtain ⟨hH, hP, hB, hT, hSp⟩ := id hS
  have sc : (nI s).toNatClampNeg = s := nI_clamp (by omega)
  have sv : vp_in (nI s) 8 := vp_in_nI hs (by decide)
  have p300 := hP.2.1
  have l40 := hT.2.1
  have b300 := hB.2.1
  have ll := hT.1
  have bl := hB.1
  generalize hlt : S.2.2.2.2 = lt at *
  generalize hbk : S.2.2.2.1 = bk at *
  have facts : ∀ U, MC O A m [251, 252, 253] M U → MS A U m ∧ mT A U s lt ∧ mB A U s bk ∧ mP A U s (mpts bk) := fun U hC => ⟨hC.ms hM, hC.mT (by decide) hT, hC.mB (by decide) hB, hC.mP (by decide) hP⟩
  refine ⟨0, 0, Nat.zero_le _, Nat.zero_le _, Nat.le_of_ble_eq_true rfl, fun G hG => ?_⟩
  -- the late points behind
  have tail : ∀ d acc j U, j + d = lt.length → MC O A m [251, 252, 253] M U → AL A U m acc → acc.length + (lt.length - j) ≤ 340 → acc ++ lt.drop j = takA lt (mpts (unt bk)) → G 186 [(0, .ref m), (1, .int (nI s)), (2, .int (nI j))] [] U 0 0 := by
    intro d
    induction d with
    | zero =>
      intro acc j U hj hC hA hb he
      obtain ⟨hMU, hTU, -, -⟩ := facts U hC
      have g0 := hMU.1
      obtain ⟨r229, k229, l229⟩ : mR U 229 m = some (A 229) ∧ mK U (A 229) = 9 ∧ mN U (A 229) = 8 := hMU.2 229 rfl
      have u1 := hTU.1
      have e1 : ¬ nI j < nI lt.length := nI_nlt (by omega) (by omega)
      rw [List.drop_eq_nil_of_le (by omega), List.append_nil] at he
      refine e_g2 hG [] 60 ?_
      simp only [e_wp_s, Option.getD_some, Option.isSome_some, Option.isSome_none, xis0, xis1, xis2, xis3, xis4, e_ks, lk_k, lk_c, List.lookup_nil, gt_c, vi_i, k1_n, k1_c, k2_n, k2_c, ar_n, ar_c, pk_n, pk_c, rm_0, rm_1, rm_2, rm_3, rm_4, rm_5, rc_9, rcs, fvs, rf_s, rf_n, isI_i, isL_l, isR_r, isR_n, isR_q, ct_i, ct_l, ct_r, ct_n, ct_q, tFs, tCs, tKs, tJs, tSs, e_nf, lgs, ↓reduceIte, true_and, and_true, false_and, and_false, or_true, true_or, false_or, or_false, Nat.reduceAdd, Nat.reduceEqDiff, Nat.reduceDiv, Nat.reduceLT, Nat.reduceLeDiff, Nat.zero_add, reduceCtorEq, Bool.false_eq_true, Option.toList_some, Option.toList_none, List.cons_append, List.nil_append, not_true_eq_false, not_false_eq_true, Nat.sub_zero, dsX7_take, jsX7_take, xcX7_take, g0, r229, k229, l229, sc, sv, u1, e1]
      exact hq U hC (by rw [← he]; exact hA)
    | succ d ih =>
      intro acc j U hj hC hA hb he
      obtain ⟨hMU, hTU, -, -⟩ := facts U hC
      have g0 := hMU.1
      obtain ⟨r229, k229, l229⟩ : mR U 229 m = some (A 229) ∧ mK U (A 229) = 9 ∧ mN U (A 229) = 8 := hMU.2 229 rfl
      obtain ⟨r233, k233, l233⟩ : mR U 233 m = some (A 233) ∧ mK U (A 233) = 9 ∧ mN U (A 233) = 400 := hMU.2 233 rfl
      obtain ⟨r235, k235, l235⟩ : mR U 235 m = some (A 235) ∧ mK U (A 235) = 10 ∧ mN U (A 235) = 400 := hMU.2 235 rfl
      have u1 := hTU.1
      have e1 : nI j < nI lt.length := nI_lt (by omega) (by omega)
      obtain ⟨q, hx⟩ : ∃ q, lt[j]? = some q := ⟨_, List.getElem?_eq_getElem (by omega)⟩
      obtain ⟨w1, w2, w3, w4⟩ := mT_at hTU hx
      have e4 : (nI (50 * s + j)).toNatClampNeg = 50 * s + j := nI_clamp (by omega)
      have e5 : vp_in (nI (50 * s + j)) 400 := vp_in_nI (by omega) (by decide)
      rw [lbl_drop (t := 0) hx] at he
      refine e_g2 hG [(222, [0, 1, 2])] 60 ?_
      simp only [e_wp_s, Option.getD_some, Option.isSome_some, Option.isSome_none, xis0, xis1, xis2, xis3, xis4, e_ks, lk_k, lk_c, List.lookup_nil, gt_c, vi_i, k1_n, k1_c, k2_n, k2_c, ar_n, ar_c, pk_n, pk_c, rm_0, rm_1, rm_2, rm_3, rm_4, rm_5, rc_9, rcs, fvs, rf_s, rf_n, isI_i, isL_l, isR_r, isR_n, isR_q, ct_i, ct_l, ct_r, ct_n, ct_q, tFs, tCs, tKs, tJs, tSs, e_nf, lgs, ↓reduceIte, true_and, and_true, false_and, and_false, or_true, true_or, false_or, or_false, Nat.reduceAdd, Nat.reduceEqDiff, Nat.reduceDiv, Nat.reduceLT, Nat.reduceLeDiff, Nat.zero_add, reduceCtorEq, Bool.false_eq_true, Option.toList_some, Option.toList_none, List.cons_append, List.nil_append, not_true_eq_false, not_false_eq_true, Nat.sub_zero, dsX7_take, jsX7_take, xcX7_take, g0, r229, k229, l229, r233, k233, l233, r235, k235, l235, sc, sv, u1, e1, e4, e5, w1, w2, l50]
      refine ⟨O, A, acc, hMU, hO, hA, by omega, fun U2 hC2 hA2 => ?_⟩
      refine e_g2 hG [(186, [0, 1, 2])] 60 ?_
      simp only [e_wp_s, Option.getD_some, Option.isSome_some, Option.isSome_none, xis0, xis1, xis2, xis3, xis4, e_ks, lk_k, lk_c, List.lookup_nil, gt_c, vi_i, k1_n, k1_c, k2_n, k2_c, ar_n, ar_c, pk_n, pk_c, rm_0, rm_1, rm_2, rm_3, rm_4, rm_5, rc_9, rcs, fvs, rf_s, rf_n, isI_i, isL_l, isR_r, isR_n, isR_q, ct_i, ct_l, ct_r, ct_n, ct_q, tFs, tCs, tKs, tJs, tSs, e_nf, lgs, ↓reduceIte, true_and, and_true, false_and, and_false, or_true, true_or, false_or, or_false, Nat.reduceAdd, Nat.reduceEqDiff, Nat.reduceDiv, Nat.reduceLT, Nat.reduceLeDiff, Nat.zero_add, reduceCtorEq, Bool.false_eq_true, Option.toList_some, Option.toList_none, List.cons_append, List.nil_append, not_true_eq_false, not_false_eq_true, Nat.sub_zero, dsX7_take, jsX7_take, xcX7_take, nI_1]
      refine ih (acc ++ [q]) (j + 1) U2 (by omega) (hC.tr hC2) hA2 ?_ ?_
      · rw [List.length_append]; simp only [List.length_cons, List.length_nil]; omega
      · rw [List.append_assoc]; exact he
  -- one main point
  have one : ∀ b st k q, aI M (A 231) (st + k) = q.1 → aL M (A 234) (st + k) = q.2 → st + k < 2560 → ∀ d acc j U, j + d = lt.length → MC O A m [251, 252, 253] M U → AL A U m acc → acc.length + (lt.length - j) < 340 → (∀ U2, MC O A m [251, 252, 253] M U2 → AL A U2 m (gm lt (acc, j) q).1 → G 174 [(0, .ref m), (1, .int (nI s)), (2, .int (nI (gm lt (acc, j) q).2)), (3, .int (nI b)), (4, .int (nI st)), (5, .int (nI (st + k)))] [] U2 0 0) → G 62 [(0, .ref m), (1, .int (nI s)), (2, .int (nI j)), (3, .int (nI b)), (4, .int (nI st)), (5, .int (nI (st + k)))] [] U 0 0 := by
    intro b st k q q1 q2 hb2 d
    have i1 : (nI (st + k)).toNatClampNeg = st + k := nI_clamp (by omega)
    have i2 : vp_in (nI (st + k)) 2560 := vp_in_nI (by omega) (by decide)
    -- the point itself
    have itself : ∀ acc j U, j ≤ lt.length → MC O A m [251, 252, 253] M U → AL A U m acc → acc.length < 340 → (∀ r, lt[j]? = some r → ¬ r.1 < q.1) → (∀ U2, MC O A m [251, 252, 253] M U2 → AL A U2 m (gm lt (acc, j) q).1 → G 174 [(0, .ref m), (1, .int (nI s)), (2, .int (nI (gm lt (acc, j) q).2)), (3, .int (nI b)), (4, .int (nI st)), (5, .int (nI (st + k)))] [] U2 0 0) → G 125 [(0, .ref m), (1, .int (nI s)), (2, .int (nI j)), (3, .int (nI b)), (4, .int (nI st)), (5, .int (nI (st + k)))] [] U 0 0 := by
      intro acc j U hj hC hA hl hno hgo
      obtain ⟨hMU, hTU, -, -⟩ := facts U hC
      have g0 := hMU.1
      obtain ⟨r229, k229, l229⟩ : mR U 229 m = some (A 229) ∧ mK U (A 229) = 9 ∧ mN U (A 229) = 8 := hMU.2 229 rfl
      obtain ⟨r231, k231, l231⟩ : mR U 231 m = some (A 231) ∧ mK U (A 231) = 9 ∧ mN U (A 231) = 2560 := hMU.2 231 rfl
      obtain ⟨r233, k233, l233⟩ : mR U 233 m = some (A 233) ∧ mK U (A 233) = 9 ∧ mN U (A 233) = 400 := hMU.2 233 rfl
      obtain ⟨r234, k234, l234⟩ : mR U 234 m = some (A 234) ∧ mK U (A 234) = 10 ∧ mN U (A 234) = 2560 := hMU.2 234 rfl
      have u1 := hTU.1
      have t1 : aI U (A 231) (st + k) = q.1 := by rw [(hC.2.2.2.2.1 231 rfl (by decide)).1]; exact q1
      have t2 : aL U (A 234) (st + k) = q.2 := by rw [(hC.2.2.2.2.1 234 rfl (by decide)).2]; exact q2
      have htl : tlb lt (acc, j) q.1 = (acc, j) := tlb_no hno
      have goadd : eqT lt j q.1 = false → G 156 [(0, .ref m), (1, .int (nI s)), (2, .int (nI j)), (3, .int (nI b)), (4, .int (nI st)), (5, .int (nI (st + k)))] [] U 0 0 := fun hf => by
        have hgm : gm lt (acc, j) q = (acc ++ [q], j) := by unfold gm; rw [htl]; simp only; rw [if_neg (by rw [hf]; decide)]
        rw [hgm] at hgo
        refine e_g2 hG [(174, [0, 1, 2, 3, 4, 5])] 60 ?_
        simp only [e_wp_s, Option.getD_some, Option.isSome_some, Option.isSome_none, xis0, xis1, xis2, xis3, xis4, e_ks, lk_k, lk_c, List.lookup_nil, gt_c, vi_i, k1_n, k1_c, k2_n, k2_c, ar_n, ar_c, pk_n, pk_c, rm_0, rm_1, rm_2, rm_3, rm_4, rm_5, rc_9, rcs, fvs, rf_s, rf_n, isI_i, isL_l, isR_r, isR_n, isR_q, ct_i, ct_l, ct_r, ct_n, ct_q, tFs, tCs, tKs, tJs, tSs, e_nf, lgs, ↓reduceIte, true_and, and_true, false_and, and_false, or_true, true_or, false_or, or_false, Nat.reduceAdd, Nat.reduceEqDiff, Nat.reduceDiv, Nat.reduceLT, Nat.reduceLeDiff, Nat.zero_add, reduceCtorEq, Bool.false_eq_true, Option.toList_some, Option.toList_none, List.cons_append, List.nil_append, not_true_eq_false, not_false_eq_true, Nat.sub_zero, dsX7_take, jsX7_take, xcX7_take, g0, r231, k231, l231, r234, k234, l234, i1, i2, t1, t2]
        refine ⟨O, A, acc, hMU, hO, hA, hl, fun U2 hC2 hA2 => ?_⟩
        exact hgo U2 (hC.tr hC2) hA2
      by_cases cj : j = lt.length
      · have e1 : nI j = nI lt.length := by rw [cj]
        refine e_g2 hG [(156, [0, 1, 2, 3, 4, 5])] 60 ?_
        simp only [e_wp_s, Option.getD_some, Option.isSome_some, Option.isSome_none, xis0, xis1, xis2, xis3, xis4, e_ks, lk_k, lk_c, List.lookup_nil, gt_c, vi_i, k1_n, k1_c, k2_n, k2_c, ar_n, ar_c, pk_n, pk_c, rm_0, rm_1, rm_2, rm_3, rm_4, rm_5, rc_9, rcs, fvs, rf_s, rf_n, isI_i, isL_l, isR_r, isR_n, isR_q, ct_i, ct_l, ct_r, ct_n, ct_q, tFs, tCs, tKs, tJs, tSs, e_nf, lgs, ↓reduceIte, true_and, and_true, false_and, and_false, or_true, true_or, false_or, or_false, Nat.reduceAdd, Nat.reduceEqDiff, Nat.reduceDiv, Nat.reduceLT, Nat.reduceLeDiff, Nat.zero_add, reduceCtorEq, Bool.false_eq_true, Option.toList_some, Option.toList_none, List.cons_append, List.nil_append, not_true_eq_false, not_false_eq_true, Nat.sub_zero, dsX7_take, jsX7_take, xcX7_take, g0, r229, k229, l229, sc, sv, u1, e1]
        have := goadd (by unfold eqT; rw [List.getElem?_eq_none (by omega)])
        rw [cj] at this
        exact this
      · have e1 : ¬ nI j = nI lt.length := fun z => cj ((nI_eq (by omega) (by omega)).mp z)
        obtain ⟨r, hx⟩ : ∃ r, lt[j]? = some r := ⟨_, List.getElem?_eq_getElem (by omega)⟩
        obtain ⟨w1, w2, w3, w4⟩ := mT_at hTU hx
        have e4 : (nI (50 * s + j)).toNatClampNeg = 50 * s + j := nI_clamp (by omega)
        have e5 : vp_in (nI (50 * s + j)) 400 := vp_in_nI (by omega) (by decide)
        have hE : eqT lt j q.1 = decide (r.1 = q.1) := by unfold eqT; rw [hx]
        by_cases c : r.1 = q.1
        · have hgm : gm lt (acc, j) q = (acc, j) := by unfold gm; rw [htl]; simp only; rw [if_pos (by rw [hE]; exact decide_eq_true c)]
          rw [hgm] at hgo
          refine e_g2 hG [(174, [0, 1, 2, 3, 4, 5])] 60 ?_
          simp only [e_wp_s, Option.getD_some, Option.isSome_some, Option.isSome_none, xis0, xis1, xis2, xis3, xis4, e_ks, lk_k, lk_c, List.lookup_nil, gt_c, vi_i, k1_n, k1_c, k2_n, k2_c, ar_n, ar_c, pk_n, pk_c, rm_0, rm_1, rm_2, rm_3, rm_4, rm_5, rc_9, rcs, fvs, rf_s, rf_n, isI_i, isL_l, isR_r, isR_n, isR_q, ct_i, ct_l, ct_r, ct_n, ct_q, tFs, tCs, tKs, tJs, tSs, e_nf, lgs, ↓reduceIte, true_and, and_true, false_and, and_false, or_true, true_or, false_or, or_false, Nat.reduceAdd, Nat.reduceEqDiff, Nat.reduceDiv, Nat.reduceLT, Nat.reduceLeDiff, Nat.zero_add, reduceCtorEq, Bool.false_eq_true, Option.toList_some, Option.toList_none, List.cons_append, List.nil_append, not_true_eq_false, not_false_eq_true, Nat.sub_zero, dsX7_take, jsX7_take, xcX7_take, g0, r229, k229, l229, r231, k231, l231, r233, k233, l233, sc, sv, u1, e1, e4, e5, w1, t1, i1, i2, c, l50]
          exact hgo U hC hA
        · refine e_g2 hG [(156, [0, 1, 2, 3, 4, 5])] 60 ?_
          simp only [e_wp_s, Option.getD_some, Option.isSome_some, Option.isSome_none, xis0, xis1, xis2, xis3, xis4, e_ks, lk_k, lk_c, List.lookup_nil, gt_c, vi_i, k1_n, k1_c, k2_n, k2_c, ar_n, ar_c, pk_n, pk_c, rm_0, rm_1, rm_2, rm_3, rm_4, rm_5, rc_9, rcs, fvs, rf_s, rf_n, isI_i, isL_l, isR_r, isR_n, isR_q, ct_i, ct_l, ct_r, ct_n, ct_q, tFs, tCs, tKs, tJs, tSs, e_nf, lgs, ↓reduceIte, true_and, and_true, false_and, and_false, or_true, true_or, false_or, or_false, Nat.reduceAdd, Nat.reduceEqDiff, Nat.reduceDiv, Nat.reduceLT, Nat.reduceLeDiff, Nat.zero_add, reduceCtorEq, Bool.false_eq_true, Option.toList_some, Option.toList_none, List.cons_append, List.nil_append, not_true_eq_false, not_false_eq_true, Nat.sub_zero, dsX7_take, jsX7_take, xcX7_take, g0, r229, k229, l229, r231, k231, l231, r233, k233, l233, sc, sv, u1, e1, e4, e5, w1, t1, i1, i2, c, l50]
          exact goadd (by rw [hE]; exact decide_eq_false c)
    induction d with
    | zero =>
      intro acc j U hj hC hA hbd hgo
      obtain ⟨hMU, hTU, -, -⟩ := facts U hC
      have g0 := hMU.1
      obtain ⟨r229, k229, l229⟩ : mR U 229 m = some (A 229) ∧ mK U (A 229) = 9 ∧ mN U (A 229) = 8 := hMU.2 229 rfl
      have u1 := hTU.1
      have e1 : ¬ nI j < nI lt.length := nI_nlt (by omega) (by omega)
      refine e_g2 hG [(125, [0, 1, 2, 3, 4, 5])] 60 ?_
      simp only [e_wp_s, Option.getD_some, Option.isSome_some, Option.isSome_none, xis0, xis1, xis2, xis3, xis4, e_ks, lk_k, lk_c, List.lookup_nil, gt_c, vi_i, k1_n, k1_c, k2_n, k2_c, ar_n, ar_c, pk_n, pk_c, rm_0, rm_1, rm_2, rm_3, rm_4, rm_5, rc_9, rcs, fvs, rf_s, rf_n, isI_i, isL_l, isR_r, isR_n, isR_q, ct_i, ct_l, ct_r, ct_n, ct_q, tFs, tCs, tKs, tJs, tSs, e_nf, lgs, ↓reduceIte, true_and, and_true, false_and, and_false, or_true, true_or, false_or, or_false, Nat.reduceAdd, Nat.reduceEqDiff, Nat.reduceDiv, Nat.reduceLT, Nat.reduceLeDiff, Nat.zero_add, reduceCtorEq, Bool.false_eq_true, Option.toList_some, Option.toList_none, List.cons_append, List.nil_append, not_true_eq_false, not_false_eq_true, Nat.sub_zero, dsX7_take, jsX7_take, xcX7_take, g0, r229, k229, l229, sc, sv, u1, e1]
      exact itself acc j U (by omega) hC hA (by omega) (fun r hr => by rw [List.getElem?_eq_none (by omega)] at hr; cases hr) hgo
    | succ d ih =>
      intro acc j U hj hC hA hbd hgo
      obtain ⟨hMU, hTU, -, -⟩ := facts U hC
      have g0 := hMU.1
      obtain ⟨r229, k229, l229⟩ : mR U 229 m = some (A 229) ∧ mK U (A 229) = 9 ∧ mN U (A 229) = 8 := hMU.2 229 rfl
      obtain ⟨r231, k231, l231⟩ : mR U 231 m = some (A 231) ∧ mK U (A 231) = 9 ∧ mN U (A 231) = 2560 := hMU.2 231 rfl
      obtain ⟨r233, k233, l233⟩ : mR U 233 m = some (A 233) ∧ mK U (A 233) = 9 ∧ mN U (A 233) = 400 := hMU.2 233 rfl
      obtain ⟨r235, k235, l235⟩ : mR U 235 m = some (A 235) ∧ mK U (A 235) = 10 ∧ mN U (A 235) = 400 := hMU.2 235 rfl
      have u1 := hTU.1
      have t1 : aI U (A 231) (st + k) = q.1 := by rw [(hC.2.2.2.2.1 231 rfl (by decide)).1]; exact q1
      have e1 : nI j < nI lt.length := nI_lt (by omega) (by omega)
      obtain ⟨r, hx⟩ : ∃ r, lt[j]? = some r := ⟨_, List.getElem?_eq_getElem (by omega)⟩
      obtain ⟨w1, w2, w3, w4⟩ := mT_at hTU hx
      have e4 : (nI (50 * s + j)).toNatClampNeg = 50 * s + j := nI_clamp (by omega)
      have e5 : vp_in (nI (50 * s + j)) 400 := vp_in_nI (by omega) (by decide)
      by_cases c : r.1 < q.1
      · have hgm : gm lt (acc, j) q = gm lt (acc ++ [r], j + 1) q := by unfold gm; rw [tlb_yes (a := (acc, j)) hx c]
        rw [hgm] at hgo
        refine e_g2 hG [(119, [0, 1, 2, 3, 4, 5])] 60 ?_
        simp only [e_wp_s, Option.getD_some, Option.isSome_some, Option.isSome_none, xis0, xis1, xis2, xis3, xis4, e_ks, lk_k, lk_c, List.lookup_nil, gt_c, vi_i, k1_n, k1_c, k2_n, k2_c, ar_n, ar_c, pk_n, pk_c, rm_0, rm_1, rm_2, rm_3, rm_4, rm_5, rc_9, rcs, fvs, rf_s, rf_n, isI_i, isL_l, isR_r, isR_n, isR_q, ct_i, ct_l, ct_r, ct_n, ct_q, tFs, tCs, tKs, tJs, tSs, e_nf, lgs, ↓reduceIte, true_and, and_true, false_and, and_false, or_true, true_or, false_or, or_false, Nat.reduceAdd, Nat.reduceEqDiff, Nat.reduceDiv, Nat.reduceLT, Nat.reduceLeDiff, Nat.zero_add, reduceCtorEq, Bool.false_eq_true, Option.toList_some, Option.toList_none, List.cons_append, List.nil_append, not_true_eq_false, not_false_eq_true, Nat.sub_zero, dsX7_take, jsX7_take, xcX7_take, g0, r229, k229, l229, r231, k231, l231, r233, k233, l233, r235, k235, l235, sc, sv, u1, e1, e4, e5, w1, w2, t1, i1, i2, c, l50]
        refine ⟨O, A, acc, hMU, hO, hA, by omega, fun U2 hC2 hA2 => ?_⟩
        refine e_g2 hG [(62, [0, 1, 2, 3, 4, 5])] 60 ?_
        simp only [e_wp_s, Option.getD_some, Option.isSome_some, Option.isSome_none, xis0, xis1, xis2, xis3, xis4, e_ks, lk_k, lk_c, List.lookup_nil, gt_c, vi_i, k1_n, k1_c, k2_n, k2_c, ar_n, ar_c, pk_n, pk_c, rm_0, rm_1, rm_2, rm_3, rm_4, rm_5, rc_9, rcs, fvs, rf_s, rf_n, isI_i, isL_l, isR_r, isR_n, isR_q, ct_i, ct_l, ct_r, ct_n, ct_q, tFs, tCs, tKs, tJs, tSs, e_nf, lgs, ↓reduceIte, true_and, and_true, false_and, and_false, or_true, true_or, false_or, or_false, Nat.reduceAdd, Nat.reduceEqDiff, Nat.reduceDiv, Nat.reduceLT, Nat.reduceLeDiff, Nat.zero_add, reduceCtorEq, Bool.false_eq_true, Option.toList_some, Option.toList_none, List.cons_append, List.nil_append, not_true_eq_false, not_false_eq_true, Nat.sub_zero, dsX7_take, jsX7_take, xcX7_take, nI_1]
        refine ih (acc ++ [r]) (j + 1) U2 (by omega) (hC.tr hC2) hA2 ?_ hgo
        rw [List.length_append]; simp only [List.length_cons, List.length_nil]; omega
      · refine e_g2 hG [(125, [0, 1, 2, 3, 4, 5])] 60 ?_
        simp only [e_wp_s, Option.getD_some, Option.isSome_some, Option.isSome_none, xis0, xis1, xis2, xis3, xis4, e_ks, lk_k, lk_c, List.lookup_nil, gt_c, vi_i, k1_n, k1_c, k2_n, k2_c, ar_n, ar_c, pk_n, pk_c, rm_0, rm_1, rm_2, rm_3, rm_4, rm_5, rc_9, rcs, fvs, rf_s, rf_n, isI_i, isL_l, isR_r, isR_n, isR_q, ct_i, ct_l, ct_r, ct_n, ct_q, tFs, tCs, tKs, tJs, tSs, e_nf, lgs, ↓reduceIte, true_and, and_true, false_and, and_false, or_true, true_or, false_or, or_false, Nat.reduceAdd, Nat.reduceEqDiff, Nat.reduceDiv, Nat.reduceLT, Nat.reduceLeDiff, Nat.zero_add, reduceCtorEq, Bool.false_eq_true, Option.toList_some, Option.toList_none, List.cons_append, List.nil_append, not_true_eq_false, not_false_eq_true, Nat.sub_zero, dsX7_take, jsX7_take, xcX7_take, g0, r229, k229, l229, r231, k231, l231, r233, k233, l233, sc, sv, u1, e1, e4, e5, w1, t1, i1, i2, c, l50]
        exact itself acc j U (by omega) hC hA (by omega) (fun r' hr => by rw [hx] at hr; cases hr; exact c) hgo
  have loop : ∀ d b U, b + d = bk.length → MC O A m [251, 252, 253] M U → AL A U m ((mpts (unt (bk.take b))).foldl (gm lt) ([], 0)).1 → G 9 [(0, .ref m), (1, .int (nI s)), (2, .int (nI ((mpts (unt (bk.take b))).foldl (gm lt) ([], 0)).2)), (3, .int (nI b))] [] U 0 0 := by
    intro d
    induction d with
    | zero =>
      intro b U hb hC hA
      obtain ⟨hMU, hTU, hBU, hPU⟩ := facts U hC
      have g0 := hMU.1
      obtain ⟨r228, k228, l228⟩ : mR U 228 m = some (A 228) ∧ mK U (A 228) = 9 ∧ mN U (A 228) = 8 := hMU.2 228 rfl
      have u1 := hBU.1
      have e1 : ¬ nI b < nI bk.length := nI_nlt (by omega) (by omega)
      rw [show b = bk.length by omega, List.take_length] at hA ⊢
      have hg := gms_le (lt := lt) (mpts (unt bk)) ([], 0) (Nat.zero_le _)
      have hu := unt_le bk
      have hg2 : ((mpts (unt bk)).foldl (gm lt) ([], 0)).1.length + (lt.length - ((mpts (unt bk)).foldl (gm lt) ([], 0)).2) ≤ 0 + (lt.length - 0) + (mpts (unt bk)).length := hg.2
      have e1' : ¬ nI bk.length < nI bk.length := nI_nlt (Nat.le_refl _) (by omega)
      refine e_g2 hG [(186, [0, 1, 2])] 60 ?_
      simp only [e_wp_s, Option.getD_some, Option.isSome_some, Option.isSome_none, xis0, xis1, xis2, xis3, xis4, e_ks, lk_k, lk_c, List.lookup_nil, gt_c, vi_i, k1_n, k1_c, k2_n, k2_c, ar_n, ar_c, pk_n, pk_c, rm_0, rm_1, rm_2, rm_3, rm_4, rm_5, rc_9, rcs, fvs, rf_s, rf_n, isI_i, isL_l, isR_r, isR_n, isR_q, ct_i, ct_l, ct_r, ct_n, ct_q, tFs, tCs, tKs, tJs, tSs, e_nf, lgs, ↓reduceIte, true_and, and_true, false_and, and_false, or_true, true_or, false_or, or_false, Nat.reduceAdd, Nat.reduceEqDiff, Nat.reduceDiv, Nat.reduceLT, Nat.reduceLeDiff, Nat.zero_add, reduceCtorEq, Bool.false_eq_true, Option.toList_some, Option.toList_none, List.cons_append, List.nil_append, not_true_eq_false, not_false_eq_true, Nat.sub_zero, dsX7_take, jsX7_take, xcX7_take, g0, r228, k228, l228, sc, sv, u1, e1']
      exact tail (lt.length - ((mpts (unt bk)).foldl (gm lt) ([], 0)).2) _ _ U (by have := hg.1; omega) hC hA (by omega) rfl
    | succ d ih =>
      intro b U hb hC hA
      obtain ⟨hMU, hTU, hBU, hPU⟩ := facts U hC
      have g0 := hMU.1
      obtain ⟨r228, k228, l228⟩ : mR U 228 m = some (A 228) ∧ mK U (A 228) = 9 ∧ mN U (A 228) = 8 := hMU.2 228 rfl
      have u1 := hBU.1
      have e1 : nI b < nI bk.length := nI_lt (by omega) (by omega)
      obtain ⟨X, hx⟩ : ∃ X, bk[b]? = some X := ⟨_, List.getElem?_eq_getElem (by omega)⟩
      have ih2 := ih (b + 1)
      rw [take_1 hx, unt_snoc] at ih2
      refine e_g2 hG [(25, [0, 1, 2, 3])] 60 ?_
      simp only [e_wp_s, Option.getD_some, Option.isSome_some, Option.isSome_none, xis0, xis1, xis2, xis3, xis4, e_ks, lk_k, lk_c, List.lookup_nil, gt_c, vi_i, k1_n, k1_c, k2_n, k2_c, ar_n, ar_c, pk_n, pk_c, rm_0, rm_1, rm_2, rm_3, rm_4, rm_5, rc_9, rcs, fvs, rf_s, rf_n, isI_i, isL_l, isR_r, isR_n, isR_q, ct_i, ct_l, ct_r, ct_n, ct_q, tFs, tCs, tKs, tJs, tSs, e_nf, lgs, ↓reduceIte, true_and, and_true, false_and, and_false, or_true, true_or, false_or, or_false, Nat.reduceAdd, Nat.reduceEqDiff, Nat.reduceDiv, Nat.reduceLT, Nat.reduceLeDiff, Nat.zero_add, reduceCtorEq, Bool.false_eq_true, Option.toList_some, Option.toList_none, List.cons_append, List.nil_append, not_true_eq_false, not_false_eq_true, Nat.sub_zero, dsX7_take, jsX7_take, xcX7_take, g0, r228, k228, l228, sc, sv, u1, e1]
      refine ⟨A, s, b, bk, X, hMU, hs, hBU, rfl, rfl, hx, ?_⟩
      by_cases ct : tornB X = true
      · rw [if_pos ct, List.append_nil] at ih2
        rw [if_pos ct]
        refine e_g2 hG [(9, [0, 1, 2, 3])] 60 ?_
        simp only [e_wp_s, Option.getD_some, Option.isSome_some, Option.isSome_none, xis0, xis1, xis2, xis3, xis4, e_ks, lk_k, lk_c, List.lookup_nil, gt_c, vi_i, k1_n, k1_c, k2_n, k2_c, ar_n, ar_c, pk_n, pk_c, rm_0, rm_1, rm_2, rm_3, rm_4, rm_5, rc_9, rcs, fvs, rf_s, rf_n, isI_i, isL_l, isR_r, isR_n, isR_q, ct_i, ct_l, ct_r, ct_n, ct_q, tFs, tCs, tKs, tJs, tSs, e_nf, lgs, ↓reduceIte, true_and, and_true, false_and, and_false, or_true, true_or, false_or, or_false, Nat.reduceAdd, Nat.reduceEqDiff, Nat.reduceDiv, Nat.reduceLT, Nat.reduceLeDiff, Nat.zero_add, reduceCtorEq, Bool.false_eq_true, Option.toList_some, Option.toList_none, List.cons_append, List.nil_append, not_true_eq_false, not_false_eq_true, Nat.sub_zero, dsX7_take, jsX7_take, xcX7_take, i10, nI_1]
        exact ih2 U (by omega) hC hA
      · rw [if_neg ct, List.foldl_append] at ih2
        rw [if_neg ct]
        have hg := gms_le (lt := lt) (mpts (unt (bk.take b))) ([], 0) (Nat.zero_le _)
        have hg2 : ((mpts (unt (bk.take b))).foldl (gm lt) ([], 0)).1.length + (lt.length - ((mpts (unt (bk.take b))).foldl (gm lt) ([], 0)).2) ≤ 0 + (lt.length - 0) + (mpts (unt (bk.take b))).length := hg.2
        have hu : (mpts (unt (bk.take (b + 1)))).length ≤ 300 := Nat.le_trans (unt_le _) (Nat.le_trans (mpts_take bk (b + 1)) p300)
        rw [take_1 hx, unt_snoc, if_neg ct, List.length_append] at hu
        generalize (mpts (unt (bk.take b))).foldl (gm lt) ([], 0) = a0 at *
        have hat : ∀ k q, X.1[k]? = some q → aI M (A 231) (320 * s + (mpts (bk.take b)).length + k) = q.1 ∧ aL M (A 234) (320 * s + (mpts (bk.take b)).length + k) = q.2 ∧ k < X.1.length ∧ (mpts (bk.take b)).length + k < 300 := fun k q hk => by
          have hkl := (List.getElem?_eq_some_iff.mp hk).1
          have h1 := mpts_at hx hkl
          rw [hk] at h1
          obtain ⟨w1, w2, w3, w4⟩ := mP_at hP h1
          rw [Nat.add_assoc]
          exact ⟨w1, w2, hkl, w4⟩
        have f2 : (nI (320 * s + b)).toNatClampNeg = 320 * s + b := nI_clamp (by omega)
        have f3 : vp_in (nI (320 * s + b)) 2560 := vp_in_nI (by omega) (by decide)
        have hmt := mpts_take bk b
        have hXl := (hB.2.2.2 X (List.mem_of_getElem? hx)).2.1
        refine e_g2 hG [(37, [0, 1, 2, 3])] 60 ?_
        simp only [e_wp_s, Option.getD_some, Option.isSome_some, Option.isSome_none, xis0, xis1, xis2, xis3, xis4, e_ks, lk_k, lk_c, List.lookup_nil, gt_c, vi_i, k1_n, k1_c, k2_n, k2_c, ar_n, ar_c, pk_n, pk_c, rm_0, rm_1, rm_2, rm_3, rm_4, rm_5, rc_9, rcs, fvs, rf_s, rf_n, isI_i, isL_l, isR_r, isR_n, isR_q, ct_i, ct_l, ct_r, ct_n, ct_q, tFs, tCs, tKs, tJs, tSs, e_nf, lgs, ↓reduceIte, true_and, and_true, false_and, and_false, or_true, true_or, false_or, or_false, Nat.reduceAdd, Nat.reduceEqDiff, Nat.reduceDiv, Nat.reduceLT, Nat.reduceLeDiff, Nat.zero_add, reduceCtorEq, Bool.false_eq_true, Option.toList_some, Option.toList_none, List.cons_append, List.nil_append, not_true_eq_false, not_false_eq_true, Nat.sub_zero, dsX7_take, jsX7_take, xcX7_take, g0, i10]
        refine ⟨A, s, b, bk, hMU, hs, hBU, rfl, rfl, by omega, ?_⟩
        have pts : ∀ e k U, k + e = X.1.length → MC O A m [251, 252, 253] M U → AL A U m ((X.1.take k).foldl (gm lt) a0).1 → G 43 [(0, .ref m), (1, .int (nI s)), (2, .int (nI ((X.1.take k).foldl (gm lt) a0).2)), (3, .int (nI b)), (4, .int (nI (320 * s + (mpts (bk.take b)).length))), (5, .int (nI (320 * s + (mpts (bk.take b)).length + k)))] [] U 0 0 := by
          intro e
          induction e with
          | zero =>
            intro k U hk hC hA
            obtain ⟨hMU, hTU, hBU, hPU⟩ := facts U hC
            have g0 := hMU.1
            obtain ⟨r232, k232, l232⟩ : mR U 232 m = some (A 232) ∧ mK U (A 232) = 9 ∧ mN U (A 232) = 2560 := hMU.2 232 rfl
            have hsz := (hBU.2.2.1 b X hx).1
            have e1 : ¬ nI (320 * s + (mpts (bk.take b)).length + k) < nI (320 * s + (mpts (bk.take b)).length + X.1.length) := nI_nlt (by omega) (by omega)
            rw [List.take_of_length_le (by omega)] at hA ⊢
            refine e_g2 hG [(9, [0, 1, 2, 3])] 60 ?_
            simp only [e_wp_s, Option.getD_some, Option.isSome_some, Option.isSome_none, xis0, xis1, xis2, xis3, xis4, e_ks, lk_k, lk_c, List.lookup_nil, gt_c, vi_i, k1_n, k1_c, k2_n, k2_c, ar_n, ar_c, pk_n, pk_c, rm_0, rm_1, rm_2, rm_3, rm_4, rm_5, rc_9, rcs, fvs, rf_s, rf_n, isI_i, isL_l, isR_r, isR_n, isR_q, ct_i, ct_l, ct_r, ct_n, ct_q, tFs, tCs, tKs, tJs, tSs, e_nf, lgs, ↓reduceIte, true_and, and_true, false_and, and_false, or_true, true_or, false_or, or_false, Nat.reduceAdd, Nat.reduceEqDiff, Nat.reduceDiv, Nat.reduceLT, Nat.reduceLeDiff, Nat.zero_add, reduceCtorEq, Bool.false_eq_true, Option.toList_some, Option.toList_none, List.cons_append, List.nil_append, not_true_eq_false, not_false_eq_true, Nat.sub_zero, dsX7_take, jsX7_take, xcX7_take, g0, r232, k232, l232, f2, f3, hsz, nI_add, e1, nI_1, ↓sp_X7_spot, spt]
            exact ih2 U (by omega) hC hA
          | succ e ihe =>
            intro k U hk hC hA
            obtain ⟨hMU, hTU, hBU, hPU⟩ := facts U hC
            have g0 := hMU.1
            obtain ⟨r232, k232, l232⟩ : mR U 232 m = some (A 232) ∧ mK U (A 232) = 9 ∧ mN U (A 232) = 2560 := hMU.2 232 rfl
            have hsz := (hBU.2.2.1 b X hx).1
            have e1 : nI (320 * s + (mpts (bk.take b)).length + k) < nI (320 * s + (mpts (bk.take b)).length + X.1.length) := nI_lt (by omega) (by omega)
            obtain ⟨q, hq1⟩ : ∃ q, X.1[k]? = some q := ⟨_, List.getElem?_eq_getElem (by omega)⟩
            obtain ⟨t1, t2, t3, t4⟩ := hat k q hq1
            have hgk := gms_le (lt := lt) (X.1.take k) a0 hg.1
            rw [List.length_take] at hgk
            have ihe2 := ihe (k + 1)
            rw [take_1 hq1, List.foldl_append] at ihe2
            refine e_g2 hG [(62, [0, 1, 2, 3, 4, 5])] 60 ?_
            simp only [e_wp_s, Option.getD_some, Option.isSome_some, Option.isSome_none, xis0, xis1, xis2, xis3, xis4, e_ks, lk_k, lk_c, List.lookup_nil, gt_c, vi_i, k1_n, k1_c, k2_n, k2_c, ar_n, ar_c, pk_n, pk_c, rm_0, rm_1, rm_2, rm_3, rm_4, rm_5, rc_9, rcs, fvs, rf_s, rf_n, isI_i, isL_l, isR_r, isR_n, isR_q, ct_i, ct_l, ct_r, ct_n, ct_q, tFs, tCs, tKs, tJs, tSs, e_nf, lgs, ↓reduceIte, true_and, and_true, false_and, and_false, or_true, true_or, false_or, or_false, Nat.reduceAdd, Nat.reduceEqDiff, Nat.reduceDiv, Nat.reduceLT, Nat.reduceLeDiff, Nat.zero_add, reduceCtorEq, Bool.false_eq_true, Option.toList_some, Option.toList_none, List.cons_append, List.nil_append, not_true_eq_false, not_false_eq_true, Nat.sub_zero, dsX7_take, jsX7_take, xcX7_take, g0, r232, k232, l232, f2, f3, hsz, nI_add, e1, ↓sp_X7_spot, spt]
            refine one b (320 * s + (mpts (bk.take b)).length) k q t1 t2 (by omega) (lt.length - ((X.1.take k).foldl (gm lt) a0).2) _ _ U (by have := hgk.1; omega) hC hA (by omega) (fun U2 hC2 hA2 => ?_)
            refine e_g2 hG [(43, [0, 1, 2, 3, 4, 5])] 60 ?_
            simp only [e_wp_s, Option.getD_some, Option.isSome_some, Option.isSome_none, xis0, xis1, xis2, xis3, xis4, e_ks, lk_k, lk_c, List.lookup_nil, gt_c, vi_i, k1_n, k1_c, k2_n, k2_c, ar_n, ar_c, pk_n, pk_c, rm_0, rm_1, rm_2, rm_3, rm_4, rm_5, rc_9, rcs, fvs, rf_s, rf_n, isI_i, isL_l, isR_r, isR_n, isR_q, ct_i, ct_l, ct_r, ct_n, ct_q, tFs, tCs, tKs, tJs, tSs, e_nf, lgs, ↓reduceIte, true_and, and_true, false_and, and_false, or_true, true_or, false_or, or_false, Nat.reduceAdd, Nat.reduceEqDiff, Nat.reduceDiv, Nat.reduceLT, Nat.reduceLeDiff, Nat.zero_add, reduceCtorEq, Bool.false_eq_true, Option.toList_some, Option.toList_none, List.cons_append, List.nil_append, not_true_eq_false, not_false_eq_true, Nat.sub_zero, dsX7_take, jsX7_take, xcX7_take, nI_1]
            exact ihe2 U2 (by omega) hC2 hA2
        refine e_g2 hG [(43, [0, 1, 2, 3, 4, 5])] 60 ?_
        simp only [e_wp_s, Option.getD_some, Option.isSome_some, Option.isSome_none, xis0, xis1, xis2, xis3, xis4, e_ks, lk_k, lk_c, List.lookup_nil, gt_c, vi_i, k1_n, k1_c, k2_n, k2_c, ar_n, ar_c, pk_n, pk_c, rm_0, rm_1, rm_2, rm_3, rm_4, rm_5, rc_9, rcs, fvs, rf_s, rf_n, isI_i, isL_l, isR_r, isR_n, isR_q, ct_i, ct_l, ct_r, ct_n, ct_q, tFs, tCs, tKs, tJs, tSs, e_nf, lgs, ↓reduceIte, true_and, and_true, false_and, and_false, or_true, true_or, false_or, or_false, Nat.reduceAdd, Nat.reduceEqDiff, Nat.reduceDiv, Nat.reduceLT, Nat.reduceLeDiff, Nat.zero_add, reduceCtorEq, Bool.false_eq_true, Option.toList_some, Option.toList_none, List.cons_append, List.nil_append, not_true_eq_false, not_false_eq_true, Nat.sub_zero, dsX7_take, jsX7_take, xcX7_take]
        exact pts X.1.length 0 U (by omega) hC hA
  have h0 := hM.1
  refine e_g2 hG [(9, [0, 1, 2, 3])] 60 ?_
  simp only [e_wp_s, Option.getD_some, Option.isSome_some, Option.isSome_none, xis0, xis1, xis2, xis3, xis4, e_ks, lk_k, lk_c, List.lookup_nil, gt_c, vi_i, k1_n, k1_c, k2_n, k2_c, ar_n, ar_c, pk_n, pk_c, rm_0, rm_1, rm_2, rm_3, rm_4, rm_5, rc_9, rcs, fvs, rf_s, rf_n, isI_i, isL_l, isR_r, isR_n, isR_q, ct_i, ct_l, ct_r, ct_n, ct_q, tFs, tCs, tKs, tJs, tSs, e_nf, lgs, ↓reduceIte, true_and, and_true, false_and, and_false, or_true, true_or, false_or, or_false, Nat.reduceAdd, Nat.reduceEqDiff, Nat.reduceDiv, Nat.reduceLT, Nat.reduceLeDiff, Nat.zero_add, reduceCtorEq, Bool.false_eq_true, Option.toList_some, Option.toList_none, List.cons_append, List.nil_append, not_true_eq_false, not_false_eq_true, Nat.sub_zero, dsX7_take, jsX7_take, xcX7_take, h0]
  exact loop bk.length 0 _ (by omega) (MC.sI MC.rf hO (by decide)) ⟨by simp only [hmI, and_self, if_true]; rfl, Nat.zero_le _, rfl⟩
def csX7_touches : CS := (cs_c 0 207 3 7 sp_X7_firstTime (cs_c 0 194 3 7 sp_X7_lastTime cs_0))
theorem csoX7_touches : ∀ op x na cl sp, csX7_touches op x = some (na, cl, sp) → CallOK 7 3 68 op x na cl sp := (cs_c_ok (caX7_touches_207 okX7_firstTime) (cs_c_ok (caX7_touches_194 okX7_lastTime) cs_0_ok))
theorem xcX7_touches : (∀ (Q : QT) (G : GT) (pc : Nat) (L : LV) (a0 a1 a2 : Value) (r : List Value) (M : HM) (k n : Nat), ex_i 7 5 4 false csX7_touches Q G (.invokevirtual 207) pc L (a2 :: a1 :: a0 :: r) M k n = (e_rm r ∧ e_rc M 7 [a0, a1, a2] ∧ sp_X7_firstTime [a0, a1, a2] M k n (fun v M' k' n' => G (pc + 3) L (v.toList ++ r) M' k' n'))) ∧ (∀ (Q : QT) (G : GT) (pc : Nat) (L : LV) (a0 a1 a2 : Value) (r : List Value) (M : HM) (k n : Nat), ex_i 7 5 4 false csX7_touches Q G (.invokevirtual 194) pc L (a2 :: a1 :: a0 :: r) M k n = (e_rm r ∧ e_rc M 7 [a0, a1, a2] ∧ sp_X7_lastTime [a0, a1, a2] M k n (fun v M' k' n' => G (pc + 3) L (v.toList ++ r) M' k' n'))) := ⟨(fun _ _ _ _ _ _ _ _ _ _ _ => xv0_3 rfl), (fun _ _ _ _ _ _ _ _ _ _ _ => xv0_3 rfl)⟩
def sp_X7_touches : SP := fun as M k n Q => match as with
  | [.ref m, .int i, .int j, .int a, .int b] => ∃ A s c bk X, MS A M m ∧ s < 8 ∧ mB A M s bk ∧ mP A M s (mpts bk) ∧ i = nI s ∧ j = nI c ∧ bk[c]? = some X ∧ Q (some (.int (if tch a b X then 1 else 0))) M k n
  | _ => False
theorem okX7_touches : OkX7_touches sp_X7_touches := by
  refine inX7_touches csoX7_touches ?_
  intro as M k n Q hsp
  unfold sp_X7_touches at hsp
  split at hsp
  rotate_left
  · exact hsp.elim
  rename_i m i j a b
  obtain ⟨A, s, c, bk, X, hM, hs, hB, hP, rfl, rfl, hx, hq⟩ := hsp
  have h0 := hM.1
  refine ⟨0, 0, Nat.zero_le _, Nat.zero_le _, Nat.le_of_ble_eq_true rfl, fun G hG => ?_⟩
  unfold tch at hq
  refine e_g2 hG [(6, [0, 1, 2, 3, 4])] 60 ?_
  simp only [e_wp_s, Option.getD_some, Option.isSome_some, Option.isSome_none, xis0, xis1, xis2, xis3, xis4, e_ks, lk_k, lk_c, List.lookup_nil, gt_c, vi_i, k1_n, k1_c, k2_n, k2_c, ar_n, ar_c, pk_n, pk_c, rm_0, rm_1, rm_2, rm_3, rm_4, rm_5, rc_9, rcs, fvs, rf_s, rf_n, isI_i, isL_l, isR_r, isR_n, isR_q, ct_i, ct_l, ct_r, ct_n, ct_q, tFs, tCs, tKs, tJs, tSs, e_nf, lgs, ↓reduceIte, true_and, and_true, false_and, and_false, or_true, true_or, false_or, or_false, Nat.reduceAdd, Nat.reduceEqDiff, Nat.reduceDiv, Nat.reduceLT, Nat.reduceLeDiff, Nat.zero_add, reduceCtorEq, Bool.false_eq_true, Option.toList_some, Option.toList_none, List.cons_append, List.nil_append, not_true_eq_false, not_false_eq_true, Nat.sub_zero, dsX7_touches, jsX7_touches, xcX7_touches, h0]
  refine ⟨A, s, c, bk, X, hM, hs, hB, hP, rfl, rfl, hx, ?_⟩
  by_cases c1 : fst1 X.1 < b
  · refine e_g2 hG [(17, [3])] 60 ?_
    simp only [e_wp_s, Option.getD_some, Option.isSome_some, Option.isSome_none, xis0, xis1, xis2, xis3, xis4, e_ks, lk_k, lk_c, List.lookup_nil, gt_c, vi_i, k1_n, k1_c, k2_n, k2_c, ar_n, ar_c, pk_n, pk_c, rm_0, rm_1, rm_2, rm_3, rm_4, rm_5, rc_9, rcs, fvs, rf_s, rf_n, isI_i, isL_l, isR_r, isR_n, isR_q, ct_i, ct_l, ct_r, ct_n, ct_q, tFs, tCs, tKs, tJs, tSs, e_nf, lgs, ↓reduceIte, true_and, and_true, false_and, and_false, or_true, true_or, false_or, or_false, Nat.reduceAdd, Nat.reduceEqDiff, Nat.reduceDiv, Nat.reduceLT, Nat.reduceLeDiff, Nat.zero_add, reduceCtorEq, Bool.false_eq_true, Option.toList_some, Option.toList_none, List.cons_append, List.nil_append, not_true_eq_false, not_false_eq_true, Nat.sub_zero, dsX7_touches, jsX7_touches, xcX7_touches, h0, c1]
    refine ⟨A, s, c, bk, X, hM, hs, hB, hP, rfl, rfl, hx, ?_⟩
    by_cases c2 : eT (enc X.1) < a
    · refine e_g2 hG [] 60 ?_
      simp only [e_wp_s, Option.getD_some, Option.isSome_some, Option.isSome_none, xis0, xis1, xis2, xis3, xis4, e_ks, lk_k, lk_c, List.lookup_nil, gt_c, vi_i, k1_n, k1_c, k2_n, k2_c, ar_n, ar_c, pk_n, pk_c, rm_0, rm_1, rm_2, rm_3, rm_4, rm_5, rc_9, rcs, fvs, rf_s, rf_n, isI_i, isL_l, isR_r, isR_n, isR_q, ct_i, ct_l, ct_r, ct_n, ct_q, tFs, tCs, tKs, tJs, tSs, e_nf, lgs, ↓reduceIte, true_and, and_true, false_and, and_false, or_true, true_or, false_or, or_false, Nat.reduceAdd, Nat.reduceEqDiff, Nat.reduceDiv, Nat.reduceLT, Nat.reduceLeDiff, Nat.zero_add, reduceCtorEq, Bool.false_eq_true, Option.toList_some, Option.toList_none, List.cons_append, List.nil_append, not_true_eq_false, not_false_eq_true, Nat.sub_zero, dsX7_touches, jsX7_touches, xcX7_touches, c2]
      simpa [c1, c2] using hq
    · refine e_g2 hG [] 60 ?_
      simp only [e_wp_s, Option.getD_some, Option.isSome_some, Option.isSome_none, xis0, xis1, xis2, xis3, xis4, e_ks, lk_k, lk_c, List.lookup_nil, gt_c, vi_i, k1_n, k1_c, k2_n, k2_c, ar_n, ar_c, pk_n, pk_c, rm_0, rm_1, rm_2, rm_3, rm_4, rm_5, rc_9, rcs, fvs, rf_s, rf_n, isI_i, isL_l, isR_r, isR_n, isR_q, ct_i, ct_l, ct_r, ct_n, ct_q, tFs, tCs, tKs, tJs, tSs, e_nf, lgs, ↓reduceIte, true_and, and_true, false_and, and_false, or_true, true_or, false_or, or_false, Nat.reduceAdd, Nat.reduceEqDiff, Nat.reduceDiv, Nat.reduceLT, Nat.reduceLeDiff, Nat.zero_add, reduceCtorEq, Bool.false_eq_true, Option.toList_some, Option.toList_none, List.cons_append, List.nil_append, not_true_eq_false, not_false_eq_true, Nat.sub_zero, dsX7_touches, jsX7_touches, xcX7_touches, c2]
      have c2' : a ≤ eT (enc X.1) := Int32.not_lt.mp c2
      simpa [c1, c2'] using hq
  · refine e_g2 hG [] 60 ?_
    simp only [e_wp_s, Option.getD_some, Option.isSome_some, Option.isSome_none, xis0, xis1, xis2, xis3, xis4, e_ks, lk_k, lk_c, List.lookup_nil, gt_c, vi_i, k1_n, k1_c, k2_n, k2_c, ar_n, ar_c, pk_n, pk_c, rm_0, rm_1, rm_2, rm_3, rm_4, rm_5, rc_9, rcs, fvs, rf_s, rf_n, isI_i, isL_l, isR_r, isR_n, isR_q, ct_i, ct_l, ct_r, ct_n, ct_q, tFs, tCs, tKs, tJs, tSs, e_nf, lgs, ↓reduceIte, true_and, and_true, false_and, and_false, or_true, true_or, false_or, or_false, Nat.reduceAdd, Nat.reduceEqDiff, Nat.reduceDiv, Nat.reduceLT, Nat.reduceLeDiff, Nat.zero_add, reduceCtorEq, Bool.false_eq_true, Option.toList_some, Option.toList_none, List.cons_append, List.nil_append, not_true_eq_false, not_false_eq_true, Nat.sub_zero, dsX7_touches, jsX7_touches, xcX7_touches, c1]
    have c1' : b ≤ fst1 X.1 := Int32.not_lt.mp c1
    simpa [c1, c1'] using hq
