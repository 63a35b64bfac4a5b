/-! the reference: look, counted, summed -/
def lkf (h : Nat) (a b : Int32) (lt : List PT) (x : BLK) : Bool := if h = 0 then unp a b lt x else if h = 1 then unr a b x else unr 0 b x
def csX7_look : CS := (cs_c 0 219 5 7 sp_X7_touches (cs_c 0 122 3 7 sp_X7_isTorn (cs_c 0 207 3 7 sp_X7_firstTime (cs_c 0 166 3 7 sp_X7_lateAt (cs_c 0 194 3 7 sp_X7_lastTime (cs_c 0 111 3 7 sp_X7_spot cs_0))))))
theorem csoX7_look : ∀ op x na cl sp, csX7_look op x = some (na, cl, sp) → CallOK 7 4 92 op x na cl sp := (cs_c_ok (caX7_look_219 okX7_touches) (cs_c_ok (caX7_look_122 okX7_isTorn) (cs_c_ok (caX7_look_207 okX7_firstTime) (cs_c_ok (caX7_look_166 okX7_lateAt) (cs_c_ok (caX7_look_194 okX7_lastTime) (cs_c_ok (caX7_look_111 okX7_spot) cs_0_ok))))))
theorem xcX7_look : (∀ (Q : QT) (G : GT) (pc : Nat) (L : LV) (a0 a1 a2 a3 a4 : Value) (r : List Value) (M : HM) (k n : Nat), ex_i 7 9 0 false csX7_look Q G (.invokevirtual 219) pc L (a4 :: a3 :: a2 :: a1 :: a0 :: r) M k n = (e_rm r ∧ e_rc M 7 [a0, a1, a2, a3, a4] ∧ sp_X7_touches [a0, a1, a2, a3, a4] M k n (fun v M' k' n' => G (pc + 3) L (v.toList ++ r) M' k' n'))) ∧ (∀ (Q : QT) (G : GT) (pc : Nat) (L : LV) (a0 a1 a2 : Value) (r : List Value) (M : HM) (k n : Nat), ex_i 7 9 0 false csX7_look Q G (.invokevirtual 122) pc L (a2 :: a1 :: a0 :: r) M k n = (e_rm r ∧ e_rc M 7 [a0, a1, a2] ∧ sp_X7_isTorn [a0, a1, a2] M k n (fun v M' k' n' => G (pc + 3) L (v.toList ++ r) M' k' n'))) ∧ (∀ (Q : QT) (G : GT) (pc : Nat) (L : LV) (a0 a1 a2 : Value) (r : List Value) (M : HM) (k n : Nat), ex_i 7 9 0 false csX7_look Q G (.invokevirtual 207) pc L (a2 :: a1 :: a0 :: r) M k n = (e_rm r ∧ e_rc M 7 [a0, a1, a2] ∧ sp_X7_firstTime [a0, a1, a2] M k n (fun v M' k' n' => G (pc + 3) L (v.toList ++ r) M' k' n'))) ∧ (∀ (Q : QT) (G : GT) (pc : Nat) (L : LV) (a0 a1 a2 : Value) (r : List Value) (M : HM) (k n : Nat), ex_i 7 9 0 false csX7_look Q G (.invokevirtual 166) pc L (a2 :: a1 :: a0 :: r) M k n = (e_rm r ∧ e_rc M 7 [a0, a1, a2] ∧ sp_X7_lateAt [a0, a1, a2] M k n (fun v M' k' n' => G (pc + 3) L (v.toList ++ r) M' k' n'))) ∧ (∀ (Q : QT) (G : GT) (pc : Nat) (L : LV) (a0 a1 a2 : Value) (r : List Value) (M : HM) (k n : Nat), ex_i 7 9 0 false csX7_look Q G (.invokevirtual 194) pc L (a2 :: a1 :: a0 :: r) M k n = (e_rm r ∧ e_rc M 7 [a0, a1, a2] ∧ sp_X7_lastTime [a0, a1, a2] M k n (fun v M' k' n' => G (pc + 3) L (v.toList ++ r) M' k' n'))) ∧ (∀ (Q : QT) (G : GT) (pc : Nat) (L : LV) (a0 a1 a2 : Value) (r : List Value) (M : HM) (k n : Nat), ex_i 7 9 0 false csX7_look Q G (.invokevirtual 111) pc L (a2 :: a1 :: a0 :: r) M k n = (e_rm r ∧ e_rc M 7 [a0, a1, a2] ∧ sp_X7_spot [a0, a1, a2] M k n (fun v M' k' n' => G (pc + 3) L (v.toList ++ r) M' k' n'))) := ⟨(fun _ _ _ _ _ _ _ _ _ _ _ _ _ => xv0_5 rfl), (fun _ _ _ _ _ _ _ _ _ _ _ => xv0_3 rfl), (fun _ _ _ _ _ _ _ _ _ _ _ => xv0_3 rfl), (fun _ _ _ _ _ _ _ _ _ _ _ => xv0_3 rfl), (fun _ _ _ _ _ _ _ _ _ _ _ => xv0_3 rfl), (fun _ _ _ _ _ _ _ _ _ _ _ => xv0_3 rfl)⟩
def sp_X7_look : SP := fun as M k n Q => match as with
  | [.ref m, .int i, .int a, .int b, .int hw] => ∃ O A s S, ∃ z : Nat × Nat × Nat, ∃ h, MS A M m ∧ GO O A m ∧ s < 8 ∧ MSer A M s S ∧ tmO (mpts S.2.2.2.1) ∧ i = nI s ∧ hw = nI h ∧ h < 3 ∧ mI M 248 m = nI z.1 ∧ mI M 249 m = nI z.2.1 ∧ mI M 250 m = nI z.2.2 ∧ ∀ U, MC O A m [248, 249, 250] M U → mI U 248 m = nI (z.1 + szs (lkf h a b S.2.2.2.2) S.2.2.2.1) → mI U 249 m = nI (z.2.1 + if h = 0 then cnt (cuSp a b) S.2.2.1 else 0) → mI U 250 m = nI (z.2.2 + cnt (trn a b) S.2.2.2.1) → Q none U k n
  | _ => False
set_option maxHeartbeats 400000 in
theorem okX7_look : OkX7_look sp_X7_look := by
  refine inX7_look csoX7_look ?_
  intro as M k n Q hsp
  unfold sp_X7_look at hsp
  split at hsp
  rotate_left
  · exact hsp.elim
  rename_i m i a b hw
  obtain ⟨O, A, s, S, z, h, hM, hO, hs, hS, htm, rfl, rfl, hh, z1, z2, z3, hq⟩ := hsp
  obtain ⟨hH, hP, hB, hT, hSp⟩ := id hS
  have sc : (nI s).toNatClampNeg = s := nI_clamp (by omega)
  have sv : vp_in (nI s) 8 := vp_in_nI hs (by decide)
  have p300 := hP.2.1
  have l40 := hT.2.1
  have b300 := hB.2.1
  have s60 := hSp.2.1
  generalize hlt : S.2.2.2.2 = lt at *
  generalize hbk : S.2.2.2.1 = bk at *
  generalize hsp : S.2.2.1 = sp at *
  have facts : ∀ U, MC O A m [248, 249, 250] M U → MS A U m ∧ mT A U s lt ∧ mB A U s bk ∧ mP A U s (mpts bk) ∧ mSp A U s sp := fun U hC => ⟨hC.ms hM, hC.mT (by decide) hT, hC.mB (by decide) hB, hC.mP (by decide) hP, hC.mSp (fun f h1 h2 => by intro hf; simp at hf; omega) (by decide) hSp⟩
  have e20 : (nI h = 0) = (h = 0) := propext (nI_eq (b := 0) (by omega) (by decide))
  have e22 : (nI h = 2) = (h = 2) := propext (nI_eq (b := 2) (by omega) (by decide))
  refine ⟨0, 0, Nat.zero_le _, Nat.zero_le _, Nat.le_of_ble_eq_true rfl, fun G hG => ?_⟩
  -- spans
  have spl : ∀ d k U, k + d = sp.length → MC O A m [248, 249, 250] M U → mI U 248 m = nI (z.1 + szs (lkf h a b lt) bk) → mI U 249 m = nI (z.2.1 + if h = 0 then cnt (cuSp a b) (sp.take k) else 0) → mI U 250 m = nI (z.2.2 + cnt (trn a b) bk) → G 201 [(0, .ref m), (1, .int (nI s)), (2, .int a), (3, .int b), (4, .int (nI h)), (5, .int (nI (70 * s + k)))] [] U 0 0 := by
    intro d
    induction d with
    | zero =>
      intro k U hk hC u1 u2 u3
      obtain ⟨hMU, hTU, hBU, hPU, hSU⟩ := facts U hC
      have g0 := hMU.1
      obtain ⟨r230, k230, l230⟩ : mR U 230 m = some (A 230) ∧ mK U (A 230) = 9 ∧ mN U (A 230) = 8 := hMU.2 230 rfl
      have v1 := hSU.1
      have e1 : ¬ nI (70 * s + k) < nI (70 * s + sp.length) := nI_nlt (by omega) (by omega)
      refine e_g2 hG [] 60 ?_
      simp only [e_wp_s, Option.getD_some, Option.isSome_some, Option.isSome_none, xis0, xis1, xis2, xis3, xis4, e_ks, lk_k, lk_c, List.lookup_nil, gt_c, vi_i, k1_n, k1_c, k2_n, k2_c, ar_n, ar_c, pk_n, pk_c, rm_0, rm_1, rm_2, rm_3, rm_4, rm_5, rc_9, rcs, fvs, rf_s, rf_n, isI_i, isL_l, isR_r, isR_n, isR_q, ct_i, ct_l, ct_r, ct_n, ct_q, tFs, tCs, tKs, tJs, tSs, e_nf, lgs, ↓reduceIte, true_and, and_true, false_and, and_false, or_true, true_or, false_or, or_false, Nat.reduceAdd, Nat.reduceEqDiff, Nat.reduceDiv, Nat.reduceLT, Nat.reduceLeDiff, Nat.zero_add, reduceCtorEq, Bool.false_eq_true, Option.toList_some, Option.toList_none, List.cons_append, List.nil_append, not_true_eq_false, not_false_eq_true, Nat.sub_zero, dsX7_look_0, dsX7_look_1, jsX7_look, xcX7_look, g0, r230, k230, l230, sc, sv, v1, l70, e1]
      rw [show k = sp.length by omega, List.take_length] at u2
      exact hq U hC u1 u2 u3
    | succ d ih =>
      intro k U hk hC u1 u2 u3
      obtain ⟨hMU, hTU, hBU, hPU, hSU⟩ := facts U hC
      have g0 := hMU.1
      obtain ⟨r230, k230, l230⟩ : mR U 230 m = some (A 230) ∧ mK U (A 230) = 9 ∧ mN U (A 230) = 8 := hMU.2 230 rfl
      obtain ⟨r237, k237, l237⟩ : mR U 237 m = some (A 237) ∧ mK U (A 237) = 9 ∧ mN U (A 237) = 560 := hMU.2 237 rfl
      obtain ⟨r238, k238, l238⟩ : mR U 238 m = some (A 238) ∧ mK U (A 238) = 9 ∧ mN U (A 238) = 560 := hMU.2 238 rfl
      have v1 := hSU.1
      have e1 : nI (70 * s + k) < nI (70 * s + sp.length) := nI_lt (by omega) (by omega)
      by_cases c0 : h = 0
      · obtain ⟨x, hx⟩ : ∃ x, sp[k]? = some x := ⟨_, List.getElem?_eq_getElem (by omega)⟩
        obtain ⟨w1, w2, w3⟩ := mSp_at hSU hx
        have y1 : aI U (A 237) (70 * s + k) = x.1 := by rw [← w1]; rfl
        have y2 : aI U (A 238) (70 * s + k) = x.2.1 := by rw [← w1]; rfl
        have i1 : (nI (70 * s + k)).toNatClampNeg = 70 * s + k := nI_clamp (by omega)
        have i2 : vp_in (nI (70 * s + k)) 560 := vp_in_nI (by omega) (by decide)
        rw [if_pos c0] at u2
        have ih2 := ih (k + 1)
        rw [if_pos c0, cnt_take hx] at ih2
        have hz : nI h = 0 := by rw [c0]; rfl
        have step : ∀ c : Nat, (if cuSp a b x then 1 else 0) = c → G 276 [(0, .ref m), (1, .int (nI s)), (2, .int a), (3, .int b), (4, .int (nI h)), (5, .int (nI (70 * s + k)))] [.int (nI c), .int (nI (z.2.1 + cnt (cuSp a b) (sp.take k))), .ref m] U 0 0 := fun c hc => by
          rw [hc] at ih2
          refine e_g2 hG [(201, [0, 1, 2, 3, 4, 5])] 60 ?_
          simp only [e_wp_s, Option.getD_some, Option.isSome_some, Option.isSome_none, xis0, xis1, xis2, xis3, xis4, e_ks, lk_k, lk_c, List.lookup_nil, gt_c, vi_i, k1_n, k1_c, k2_n, k2_c, ar_n, ar_c, pk_n, pk_c, rm_0, rm_1, rm_2, rm_3, rm_4, rm_5, rc_9, rcs, fvs, rf_s, rf_n, isI_i, isL_l, isR_r, isR_n, isR_q, ct_i, ct_l, ct_r, ct_n, ct_q, tFs, tCs, tKs, tJs, tSs, e_nf, lgs, ↓reduceIte, true_and, and_true, false_and, and_false, or_true, true_or, false_or, or_false, Nat.reduceAdd, Nat.reduceEqDiff, Nat.reduceDiv, Nat.reduceLT, Nat.reduceLeDiff, Nat.zero_add, reduceCtorEq, Bool.false_eq_true, Option.toList_some, Option.toList_none, List.cons_append, List.nil_append, not_true_eq_false, not_false_eq_true, Nat.sub_zero, dsX7_look_0, dsX7_look_1, jsX7_look, xcX7_look, g0, nI_add, nI_1]
          refine ih2 _ (by omega) (MC.sI hC hO (by decide)) ?_ ?_ ?_
          · simp only [hmI, Nat.reduceEqDiff, false_and, if_false]; exact u1
          · simp only [hmI, and_self, if_true]; congr 1; omega
          · simp only [hmI, Nat.reduceEqDiff, false_and, if_false]; exact u3
        have k0 : (0 : Int32) = nI 0 := rfl
        have k1 : (1 : Int32) = nI 1 := rfl
        unfold cuSp inSp at step
        by_cases c1 : x.1 < b
        · by_cases c2 : a < x.2.1
          · by_cases c3 : x.1 < a
            · have := step 1 (by simp [c1, c2, c3])
              refine e_g2 hG [(276, [0, 1, 2, 3, 4, 5])] 60 ?_
              simp only [e_wp_s, Option.getD_some, Option.isSome_some, Option.isSome_none, xis0, xis1, xis2, xis3, xis4, e_ks, lk_k, lk_c, List.lookup_nil, gt_c, vi_i, k1_n, k1_c, k2_n, k2_c, ar_n, ar_c, pk_n, pk_c, rm_0, rm_1, rm_2, rm_3, rm_4, rm_5, rc_9, rcs, fvs, rf_s, rf_n, isI_i, isL_l, isR_r, isR_n, isR_q, ct_i, ct_l, ct_r, ct_n, ct_q, tFs, tCs, tKs, tJs, tSs, e_nf, lgs, ↓reduceIte, true_and, and_true, false_and, and_false, or_true, true_or, false_or, or_false, Nat.reduceAdd, Nat.reduceEqDiff, Nat.reduceDiv, Nat.reduceLT, Nat.reduceLeDiff, Nat.zero_add, reduceCtorEq, Bool.false_eq_true, Option.toList_some, Option.toList_none, List.cons_append, List.nil_append, not_true_eq_false, not_false_eq_true, Nat.sub_zero, dsX7_look_0, dsX7_look_1, jsX7_look, xcX7_look, g0, r230, k230, l230, r237, k237, l237, r238, k238, l238, sc, sv, v1, l70, e1, hz, u2, y1, y2, i1, i2, c1, c2, c3]
              rw [hz] at this
              exact this
            · by_cases c4 : b < x.2.1
              · have := step 1 (by simp [c1, c2, c4])
                refine e_g2 hG [(276, [0, 1, 2, 3, 4, 5])] 60 ?_
                simp only [e_wp_s, Option.getD_some, Option.isSome_some, Option.isSome_none, xis0, xis1, xis2, xis3, xis4, e_ks, lk_k, lk_c, List.lookup_nil, gt_c, vi_i, k1_n, k1_c, k2_n, k2_c, ar_n, ar_c, pk_n, pk_c, rm_0, rm_1, rm_2, rm_3, rm_4, rm_5, rc_9, rcs, fvs, rf_s, rf_n, isI_i, isL_l, isR_r, isR_n, isR_q, ct_i, ct_l, ct_r, ct_n, ct_q, tFs, tCs, tKs, tJs, tSs, e_nf, lgs, ↓reduceIte, true_and, and_true, false_and, and_false, or_true, true_or, false_or, or_false, Nat.reduceAdd, Nat.reduceEqDiff, Nat.reduceDiv, Nat.reduceLT, Nat.reduceLeDiff, Nat.zero_add, reduceCtorEq, Bool.false_eq_true, Option.toList_some, Option.toList_none, List.cons_append, List.nil_append, not_true_eq_false, not_false_eq_true, Nat.sub_zero, dsX7_look_0, dsX7_look_1, jsX7_look, xcX7_look, g0, r230, k230, l230, r237, k237, l237, r238, k238, l238, sc, sv, v1, l70, e1, hz, u2, y1, y2, i1, i2, c1, c2, c3, c4]
                rw [hz] at this
                exact this
              · have c3' : a ≤ x.1 := Int32.not_lt.mp c3
                have c4' : x.2.1 ≤ b := Int32.not_lt.mp c4
                have := step 0 (by simp [c3', c4'])
                refine e_g2 hG [(276, [0, 1, 2, 3, 4, 5])] 60 ?_
                simp only [e_wp_s, Option.getD_some, Option.isSome_some, Option.isSome_none, xis0, xis1, xis2, xis3, xis4, e_ks, lk_k, lk_c, List.lookup_nil, gt_c, vi_i, k1_n, k1_c, k2_n, k2_c, ar_n, ar_c, pk_n, pk_c, rm_0, rm_1, rm_2, rm_3, rm_4, rm_5, rc_9, rcs, fvs, rf_s, rf_n, isI_i, isL_l, isR_r, isR_n, isR_q, ct_i, ct_l, ct_r, ct_n, ct_q, tFs, tCs, tKs, tJs, tSs, e_nf, lgs, ↓reduceIte, true_and, and_true, false_and, and_false, or_true, true_or, false_or, or_false, Nat.reduceAdd, Nat.reduceEqDiff, Nat.reduceDiv, Nat.reduceLT, Nat.reduceLeDiff, Nat.zero_add, reduceCtorEq, Bool.false_eq_true, Option.toList_some, Option.toList_none, List.cons_append, List.nil_append, not_true_eq_false, not_false_eq_true, Nat.sub_zero, dsX7_look_0, dsX7_look_1, jsX7_look, xcX7_look, g0, r230, k230, l230, r237, k237, l237, r238, k238, l238, sc, sv, v1, l70, e1, hz, u2, y1, y2, i1, i2, c1, c2, c3, c4]
                rw [hz] at this
                exact this
          · have := step 0 (by simp [c2])
            refine e_g2 hG [(276, [0, 1, 2, 3, 4, 5])] 60 ?_
            simp only [e_wp_s, Option.getD_some, Option.isSome_some, Option.isSome_none, xis0, xis1, xis2, xis3, xis4, e_ks, lk_k, lk_c, List.lookup_nil, gt_c, vi_i, k1_n, k1_c, k2_n, k2_c, ar_n, ar_c, pk_n, pk_c, rm_0, rm_1, rm_2, rm_3, rm_4, rm_5, rc_9, rcs, fvs, rf_s, rf_n, isI_i, isL_l, isR_r, isR_n, isR_q, ct_i, ct_l, ct_r, ct_n, ct_q, tFs, tCs, tKs, tJs, tSs, e_nf, lgs, ↓reduceIte, true_and, and_true, false_and, and_false, or_true, true_or, false_or, or_false, Nat.reduceAdd, Nat.reduceEqDiff, Nat.reduceDiv, Nat.reduceLT, Nat.reduceLeDiff, Nat.zero_add, reduceCtorEq, Bool.false_eq_true, Option.toList_some, Option.toList_none, List.cons_append, List.nil_append, not_true_eq_false, not_false_eq_true, Nat.sub_zero, dsX7_look_0, dsX7_look_1, jsX7_look, xcX7_look, g0, r230, k230, l230, r237, k237, l237, r238, k238, l238, sc, sv, v1, l70, e1, hz, u2, y1, y2, i1, i2, c1, c2]
            rw [hz] at this
            exact this
        · have := step 0 (by simp [c1])
          refine e_g2 hG [(276, [0, 1, 2, 3, 4, 5])] 60 ?_
          simp only [e_wp_s, Option.getD_some, Option.isSome_some, Option.isSome_none, xis0, xis1, xis2, xis3, xis4, e_ks, lk_k, lk_c, List.lookup_nil, gt_c, vi_i, k1_n, k1_c, k2_n, k2_c, ar_n, ar_c, pk_n, pk_c, rm_0, rm_1, rm_2, rm_3, rm_4, rm_5, rc_9, rcs, fvs, rf_s, rf_n, isI_i, isL_l, isR_r, isR_n, isR_q, ct_i, ct_l, ct_r, ct_n, ct_q, tFs, tCs, tKs, tJs, tSs, e_nf, lgs, ↓reduceIte, true_and, and_true, false_and, and_false, or_true, true_or, false_or, or_false, Nat.reduceAdd, Nat.reduceEqDiff, Nat.reduceDiv, Nat.reduceLT, Nat.reduceLeDiff, Nat.zero_add, reduceCtorEq, Bool.false_eq_true, Option.toList_some, Option.toList_none, List.cons_append, List.nil_append, not_true_eq_false, not_false_eq_true, Nat.sub_zero, dsX7_look_0, dsX7_look_1, jsX7_look, xcX7_look, g0, r230, k230, l230, r237, k237, l237, r238, k238, l238, sc, sv, v1, l70, e1, hz, u2, y1, y2, i1, i2, c1]
          rw [hz] at this
          exact this
      · rw [if_neg c0] at u2
        have hz : ¬ nI h = 0 := by rw [e20]; exact c0
        refine e_g2 hG [] 60 ?_
        simp only [e_wp_s, Option.getD_some, Option.isSome_some, Option.isSome_none, xis0, xis1, xis2, xis3, xis4, e_ks, lk_k, lk_c, List.lookup_nil, gt_c, vi_i, k1_n, k1_c, k2_n, k2_c, ar_n, ar_c, pk_n, pk_c, rm_0, rm_1, rm_2, rm_3, rm_4, rm_5, rc_9, rcs, fvs, rf_s, rf_n, isI_i, isL_l, isR_r, isR_n, isR_q, ct_i, ct_l, ct_r, ct_n, ct_q, tFs, tCs, tKs, tJs, tSs, e_nf, lgs, ↓reduceIte, true_and, and_true, false_and, and_false, or_true, true_or, false_or, or_false, Nat.reduceAdd, Nat.reduceEqDiff, Nat.reduceDiv, Nat.reduceLT, Nat.reduceLeDiff, Nat.zero_add, reduceCtorEq, Bool.false_eq_true, Option.toList_some, Option.toList_none, List.cons_append, List.nil_append, not_true_eq_false, not_false_eq_true, Nat.sub_zero, dsX7_look_0, dsX7_look_1, jsX7_look, xcX7_look, g0, r230, k230, l230, sc, sv, v1, l70, e1, hz]
        exact hq U hC u1 (by rw [if_neg c0]; exact u2) u3
  -- blocks
  have loop : ∀ d k U, k + d = bk.length → MC O A m [248, 249, 250] M U → mI U 248 m = nI (z.1 + szs (lkf h a b lt) (bk.take k)) → mI U 249 m = nI z.2.1 → mI U 250 m = nI (z.2.2 + cnt (trn a b) (bk.take k)) → G 3 [(0, .ref m), (1, .int (nI s)), (2, .int a), (3, .int b), (4, .int (nI h)), (5, .int (nI k))] [] U 0 0 := by
    intro d
    induction d with
    | zero =>
      intro k U hk hC u1 u2 u3
      obtain ⟨hMU, hTU, hBU, hPU, hSU⟩ := facts U hC
      have g0 := hMU.1
      obtain ⟨r228, k228, l228⟩ : mR U 228 m = some (A 228) ∧ mK U (A 228) = 9 ∧ mN U (A 228) = 8 := hMU.2 228 rfl
      have v1 := hBU.1
      have e1 : ¬ nI k < nI bk.length := nI_nlt (by omega) (by omega)
      have l0 : (70 : Int32) * nI s = nI (70 * s) := nI_mul 70 s
      rw [show k = bk.length by omega, List.take_length] at u1 u3
      refine e_g2 hG [(201, [0, 1, 2, 3, 4, 5])] 60 ?_
      simp only [e_wp_s, Option.getD_some, Option.isSome_some, Option.isSome_none, xis0, xis1, xis2, xis3, xis4, e_ks, lk_k, lk_c, List.lookup_nil, gt_c, vi_i, k1_n, k1_c, k2_n, k2_c, ar_n, ar_c, pk_n, pk_c, rm_0, rm_1, rm_2, rm_3, rm_4, rm_5, rc_9, rcs, fvs, rf_s, rf_n, isI_i, isL_l, isR_r, isR_n, isR_q, ct_i, ct_l, ct_r, ct_n, ct_q, tFs, tCs, tKs, tJs, tSs, e_nf, lgs, ↓reduceIte, true_and, and_true, false_and, and_false, or_true, true_or, false_or, or_false, Nat.reduceAdd, Nat.reduceEqDiff, Nat.reduceDiv, Nat.reduceLT, Nat.reduceLeDiff, Nat.zero_add, reduceCtorEq, Bool.false_eq_true, Option.toList_some, Option.toList_none, List.cons_append, List.nil_append, not_true_eq_false, not_false_eq_true, Nat.sub_zero, dsX7_look_0, dsX7_look_1, jsX7_look, xcX7_look, g0, r228, k228, l228, sc, sv, v1, e1, l0]
      refine spl sp.length 0 U (by omega) hC u1 ?_ u3
      rw [u2, List.take_zero]
      congr 1
      split <;> rfl
    | succ d ih =>
      intro k U hk hC u1 u2 u3
      obtain ⟨hMU, hTU, hBU, hPU, hSU⟩ := facts U hC
      have g0 := hMU.1
      obtain ⟨r228, k228, l228⟩ : mR U 228 m = some (A 228) ∧ mK U (A 228) = 9 ∧ mN U (A 228) = 8 := hMU.2 228 rfl
      obtain ⟨r229, k229, l229⟩ : mR U 229 m = some (A 229) ∧ mK U (A 229) = 9 ∧ mN U (A 229) = 8 := hMU.2 229 rfl
      obtain ⟨r232, k232, l232⟩ : mR U 232 m = some (A 232) ∧ mK U (A 232) = 9 ∧ mN U (A 232) = 2560 := hMU.2 232 rfl
      obtain ⟨r233, k233, l233⟩ : mR U 233 m = some (A 233) ∧ mK U (A 233) = 9 ∧ mN U (A 233) = 400 := hMU.2 233 rfl
      have v1 := hBU.1
      have v2 := hTU.1
      have e1 : nI k < nI bk.length := nI_lt (by omega) (by omega)
      obtain ⟨X, hx⟩ : ∃ X, bk[k]? = some X := ⟨_, List.getElem?_eq_getElem (by omega)⟩
      have hsz := (hBU.2.2.1 k X hx).1
      have f2 : (nI (320 * s + k)).toNatClampNeg = 320 * s + k := nI_clamp (by omega)
      have f3 : vp_in (nI (320 * s + k)) 2560 := vp_in_nI (by omega) (by decide)
      have ih2 := ih (k + 1)
      rw [szs_take hx, cnt_take hx] at ih2
      refine e_g2 hG [(23, [0, 1, 2, 3, 4, 5])] 60 ?_
      simp only [e_wp_s, Option.getD_some, Option.isSome_some, Option.isSome_none, xis0, xis1, xis2, xis3, xis4, e_ks, lk_k, lk_c, List.lookup_nil, gt_c, vi_i, k1_n, k1_c, k2_n, k2_c, ar_n, ar_c, pk_n, pk_c, rm_0, rm_1, rm_2, rm_3, rm_4, rm_5, rc_9, rcs, fvs, rf_s, rf_n, isI_i, isL_l, isR_r, isR_n, isR_q, ct_i, ct_l, ct_r, ct_n, ct_q, tFs, tCs, tKs, tJs, tSs, e_nf, lgs, ↓reduceIte, true_and, and_true, false_and, and_false, or_true, true_or, false_or, or_false, Nat.reduceAdd, Nat.reduceEqDiff, Nat.reduceDiv, Nat.reduceLT, Nat.reduceLeDiff, Nat.zero_add, reduceCtorEq, Bool.false_eq_true, Option.toList_some, Option.toList_none, List.cons_append, List.nil_append, not_true_eq_false, not_false_eq_true, Nat.sub_zero, dsX7_look_0, dsX7_look_1, jsX7_look, xcX7_look, g0, r228, k228, l228, sc, sv, v1, e1]
      refine ⟨A, s, k, bk, X, hMU, hs, hBU, hPU, rfl, rfl, hx, ?_⟩
      refine e_g2 hG [(32, [0, 1, 2, 3, 4, 5, 6])] 60 ?_
      simp only [e_wp_s, Option.getD_some, Option.isSome_some, Option.isSome_none, xis0, xis1, xis2, xis3, xis4, e_ks, lk_k, lk_c, List.lookup_nil, gt_c, vi_i, k1_n, k1_c, k2_n, k2_c, ar_n, ar_c, pk_n, pk_c, rm_0, rm_1, rm_2, rm_3, rm_4, rm_5, rc_9, rcs, fvs, rf_s, rf_n, isI_i, isL_l, isR_r, isR_n, isR_q, ct_i, ct_l, ct_r, ct_n, ct_q, tFs, tCs, tKs, tJs, tSs, e_nf, lgs, ↓reduceIte, true_and, and_true, false_and, and_false, or_true, true_or, false_or, or_false, Nat.reduceAdd, Nat.reduceEqDiff, Nat.reduceDiv, Nat.reduceLT, Nat.reduceLeDiff, Nat.zero_add, reduceCtorEq, Bool.false_eq_true, Option.toList_some, Option.toList_none, List.cons_append, List.nil_append, not_true_eq_false, not_false_eq_true, Nat.sub_zero, dsX7_look_0, dsX7_look_1, jsX7_look, xcX7_look, g0]
      refine ⟨A, s, k, bk, X, hMU, hs, hBU, rfl, rfl, hx, ?_⟩
      by_cases ct : tornB X = true
      · have f1 : lkf h a b lt X = false := by unfold lkf unp unr; simp [ct]
        simp only [f1, Bool.false_eq_true, ↓reduceIte, Nat.add_zero] at ih2
        rw [if_pos ct]
        by_cases c1 : tch a b X = true
        · have f3' : trn a b X = true := by unfold trn; simp [ct, c1]
          simp only [f3', ↓reduceIte] at ih2
          rw [if_pos c1]
          refine e_g2 hG [(3, [0, 1, 2, 3, 4, 5])] 60 ?_
          simp only [e_wp_s, Option.getD_some, Option.isSome_some, Option.isSome_none, xis0, xis1, xis2, xis3, xis4, e_ks, lk_k, lk_c, List.lookup_nil, gt_c, vi_i, k1_n, k1_c, k2_n, k2_c, ar_n, ar_c, pk_n, pk_c, rm_0, rm_1, rm_2, rm_3, rm_4, rm_5, rc_9, rcs, fvs, rf_s, rf_n, isI_i, isL_l, isR_r, isR_n, isR_q, ct_i, ct_l, ct_r, ct_n, ct_q, tFs, tCs, tKs, tJs, tSs, e_nf, lgs, ↓reduceIte, true_and, and_true, false_and, and_false, or_true, true_or, false_or, or_false, Nat.reduceAdd, Nat.reduceEqDiff, Nat.reduceDiv, Nat.reduceLT, Nat.reduceLeDiff, Nat.zero_add, reduceCtorEq, Bool.false_eq_true, Option.toList_some, Option.toList_none, List.cons_append, List.nil_append, not_true_eq_false, not_false_eq_true, Nat.sub_zero, dsX7_look_0, dsX7_look_1, jsX7_look, xcX7_look, g0, i10, u3, nI_1]
          refine ih2 _ (by omega) (MC.sI hC hO (by decide)) ?_ ?_ ?_
          · simp only [hmI, Nat.reduceEqDiff, false_and, if_false]; exact u1
          · simp only [hmI, Nat.reduceEqDiff, false_and, if_false]; exact u2
          · simp only [hmI, and_self, if_true]; congr 1
        · have f3' : trn a b X = false := by unfold trn; simp [c1]
          simp only [f3', Bool.false_eq_true, ↓reduceIte, Nat.add_zero] at ih2
          rw [if_neg c1]
          refine e_g2 hG [(3, [0, 1, 2, 3, 4, 5])] 60 ?_
          simp only [e_wp_s, Option.getD_some, Option.isSome_some, Option.isSome_none, xis0, xis1, xis2, xis3, xis4, e_ks, lk_k, lk_c, List.lookup_nil, gt_c, vi_i, k1_n, k1_c, k2_n, k2_c, ar_n, ar_c, pk_n, pk_c, rm_0, rm_1, rm_2, rm_3, rm_4, rm_5, rc_9, rcs, fvs, rf_s, rf_n, isI_i, isL_l, isR_r, isR_n, isR_q, ct_i, ct_l, ct_r, ct_n, ct_q, tFs, tCs, tKs, tJs, tSs, e_nf, lgs, ↓reduceIte, true_and, and_true, false_and, and_false, or_true, true_or, false_or, or_false, Nat.reduceAdd, Nat.reduceEqDiff, Nat.reduceDiv, Nat.reduceLT, Nat.reduceLeDiff, Nat.zero_add, reduceCtorEq, Bool.false_eq_true, Option.toList_some, Option.toList_none, List.cons_append, List.nil_append, not_true_eq_false, not_false_eq_true, Nat.sub_zero, dsX7_look_0, dsX7_look_1, jsX7_look, xcX7_look, g0, i10, u3, nI_1]
          refine ih2 _ (by omega) (MC.sI hC hO (by decide)) ?_ ?_ ?_
          · simp only [hmI, Nat.reduceEqDiff, false_and, if_false]; exact u1
          · simp only [hmI, Nat.reduceEqDiff, false_and, if_false]; exact u2
          · simp only [hmI, and_self, if_true]; rw [Int32.add_zero]
      · have f3' : trn a b X = false := by unfold trn; simp [ct]
        simp only [f3', Bool.false_eq_true, ↓reduceIte, Nat.add_zero] at ih2
        rw [if_neg ct]
        have hle := lbl_le (fst1 X.1) lt
        have hxn := (hB.2.2.2 X (List.mem_of_getElem? hx)).1
        -- the size is added, or not
        have yes : lkf h a b lt X = true → G 168 [(0, .ref m), (1, .int (nI s)), (2, .int a), (3, .int b), (4, .int (nI h)), (5, .int (nI k))] [] U 0 0 := fun hf => by
          simp only [hf, ↓reduceIte] at ih2
          refine e_g2 hG [(3, [0, 1, 2, 3, 4, 5])] 60 ?_
          simp only [e_wp_s, Option.getD_some, Option.isSome_some, Option.isSome_none, xis0, xis1, xis2, xis3, xis4, e_ks, lk_k, lk_c, List.lookup_nil, gt_c, vi_i, k1_n, k1_c, k2_n, k2_c, ar_n, ar_c, pk_n, pk_c, rm_0, rm_1, rm_2, rm_3, rm_4, rm_5, rc_9, rcs, fvs, rf_s, rf_n, isI_i, isL_l, isR_r, isR_n, isR_q, ct_i, ct_l, ct_r, ct_n, ct_q, tFs, tCs, tKs, tJs, tSs, e_nf, lgs, ↓reduceIte, true_and, and_true, false_and, and_false, or_true, true_or, false_or, or_false, Nat.reduceAdd, Nat.reduceEqDiff, Nat.reduceDiv, Nat.reduceLT, Nat.reduceLeDiff, Nat.zero_add, reduceCtorEq, Bool.false_eq_true, Option.toList_some, Option.toList_none, List.cons_append, List.nil_append, not_true_eq_false, not_false_eq_true, Nat.sub_zero, dsX7_look_0, dsX7_look_1, jsX7_look, xcX7_look, g0, r232, k232, l232, f2, f3, hsz, u1, nI_add, nI_1, ↓sp_X7_spot, spt]
          refine ih2 _ (by omega) (MC.sI hC hO (by decide)) ?_ ?_ ?_
          · simp only [hmI, and_self, if_true]; rw [Nat.add_assoc]
          · simp only [hmI, Nat.reduceEqDiff, false_and, if_false]; exact u2
          · simp only [hmI, Nat.reduceEqDiff, false_and, if_false]; exact u3
        have no : lkf h a b lt X = false → G 189 [(0, .ref m), (1, .int (nI s)), (2, .int a), (3, .int b), (4, .int (nI h)), (5, .int (nI k))] [] U 0 0 := fun hf => by
          simp only [hf, Bool.false_eq_true, ↓reduceIte, Nat.add_zero] at ih2
          refine e_g2 hG [(3, [0, 1, 2, 3, 4, 5])] 60 ?_
          simp only [e_wp_s, Option.getD_some, Option.isSome_some, Option.isSome_none, xis0, xis1, xis2, xis3, xis4, e_ks, lk_k, lk_c, List.lookup_nil, gt_c, vi_i, k1_n, k1_c, k2_n, k2_c, ar_n, ar_c, pk_n, pk_c, rm_0, rm_1, rm_2, rm_3, rm_4, rm_5, rc_9, rcs, fvs, rf_s, rf_n, isI_i, isL_l, isR_r, isR_n, isR_q, ct_i, ct_l, ct_r, ct_n, ct_q, tFs, tCs, tKs, tJs, tSs, e_nf, lgs, ↓reduceIte, true_and, and_true, false_and, and_false, or_true, true_or, false_or, or_false, Nat.reduceAdd, Nat.reduceEqDiff, Nat.reduceDiv, Nat.reduceLT, Nat.reduceLeDiff, Nat.zero_add, reduceCtorEq, Bool.false_eq_true, Option.toList_some, Option.toList_none, List.cons_append, List.nil_append, not_true_eq_false, not_false_eq_true, Nat.sub_zero, dsX7_look_0, dsX7_look_1, jsX7_look, xcX7_look, nI_1]
          exact ih2 U (by omega) hC u1 u2 u3
        -- from 'told' on
        have dec : ∀ tl : Bool, (h = 0 → tl = (wth a b X && !hasFT lt (fst1 X.1) (eT (enc X.1)))) → (¬ h = 0 → tl = false) → G 136 [(0, .ref m), (1, .int (nI s)), (2, .int a), (3, .int b), (4, .int (nI h)), (5, .int (nI k)), (6, .int (if tch a b X then 1 else 0))] [.int (if tl then 1 else 0)] U 0 0 := fun tl ht1 ht2 => by
          by_cases c2 : h = 2
          · have hz2 : nI h = 2 := by rw [e22]; exact c2
            have hlk : lkf h a b lt X = decide (fst1 X.1 < b) := by
              unfold lkf
              rw [if_neg (by omega), if_neg (by omega)]
              unfold unr tch
              have h1 : ¬ eT (enc X.1) < 0 := by
                obtain ⟨q, hq1, hq2⟩ := last_T hxn
                have := tmO_blk htm hx q (List.mem_of_getElem? hq1)
                rw [hq2, Int32.lt_iff_toInt_lt, show (0 : Int32).toInt = 0 from rfl]
                omega
              have ct' : tornB X = false := by cases hh' : tornB X with
                | true => exact absurd hh' ct
                | false => rfl
              rw [ct', decide_eq_true h1, Bool.and_true]; rfl
            refine e_g2 hG [(151, [0, 1, 2, 3, 4, 5])] 60 ?_
            simp only [e_wp_s, Option.getD_some, Option.isSome_some, Option.isSome_none, xis0, xis1, xis2, xis3, xis4, e_ks, lk_k, lk_c, List.lookup_nil, gt_c, vi_i, k1_n, k1_c, k2_n, k2_c, ar_n, ar_c, pk_n, pk_c, rm_0, rm_1, rm_2, rm_3, rm_4, rm_5, rc_9, rcs, fvs, rf_s, rf_n, isI_i, isL_l, isR_r, isR_n, isR_q, ct_i, ct_l, ct_r, ct_n, ct_q, tFs, tCs, tKs, tJs, tSs, e_nf, lgs, ↓reduceIte, true_and, and_true, false_and, and_false, or_true, true_or, false_or, or_false, Nat.reduceAdd, Nat.reduceEqDiff, Nat.reduceDiv, Nat.reduceLT, Nat.reduceLeDiff, Nat.zero_add, reduceCtorEq, Bool.false_eq_true, Option.toList_some, Option.toList_none, List.cons_append, List.nil_append, not_true_eq_false, not_false_eq_true, Nat.sub_zero, dsX7_look_0, dsX7_look_1, jsX7_look, xcX7_look, g0, hz2]
            refine ⟨A, s, k, bk, X, hMU, hs, hBU, hPU, rfl, rfl, hx, ?_⟩
            rw [hz2] at yes no
            by_cases c3 : fst1 X.1 < b
            · refine e_g2 hG [(168, [0, 1, 2, 3, 4, 5])] 60 ?_
              simp only [e_wp_s, Option.getD_some, Option.isSome_some, Option.isSome_none, xis0, xis1, xis2, xis3, xis4, e_ks, lk_k, lk_c, List.lookup_nil, gt_c, vi_i, k1_n, k1_c, k2_n, k2_c, ar_n, ar_c, pk_n, pk_c, rm_0, rm_1, rm_2, rm_3, rm_4, rm_5, rc_9, rcs, fvs, rf_s, rf_n, isI_i, isL_l, isR_r, isR_n, isR_q, ct_i, ct_l, ct_r, ct_n, ct_q, tFs, tCs, tKs, tJs, tSs, e_nf, lgs, ↓reduceIte, true_and, and_true, false_and, and_false, or_true, true_or, false_or, or_false, Nat.reduceAdd, Nat.reduceEqDiff, Nat.reduceDiv, Nat.reduceLT, Nat.reduceLeDiff, Nat.zero_add, reduceCtorEq, Bool.false_eq_true, Option.toList_some, Option.toList_none, List.cons_append, List.nil_append, not_true_eq_false, not_false_eq_true, Nat.sub_zero, dsX7_look_0, dsX7_look_1, jsX7_look, xcX7_look, c3]
              exact yes (by rw [hlk]; exact decide_eq_true c3)
            · refine e_g2 hG [(189, [0, 1, 2, 3, 4, 5])] 60 ?_
              simp only [e_wp_s, Option.getD_some, Option.isSome_some, Option.isSome_none, xis0, xis1, xis2, xis3, xis4, e_ks, lk_k, lk_c, List.lookup_nil, gt_c, vi_i, k1_n, k1_c, k2_n, k2_c, ar_n, ar_c, pk_n, pk_c, rm_0, rm_1, rm_2, rm_3, rm_4, rm_5, rc_9, rcs, fvs, rf_s, rf_n, isI_i, isL_l, isR_r, isR_n, isR_q, ct_i, ct_l, ct_r, ct_n, ct_q, tFs, tCs, tKs, tJs, tSs, e_nf, lgs, ↓reduceIte, true_and, and_true, false_and, and_false, or_true, true_or, false_or, or_false, Nat.reduceAdd, Nat.reduceEqDiff, Nat.reduceDiv, Nat.reduceLT, Nat.reduceLeDiff, Nat.zero_add, reduceCtorEq, Bool.false_eq_true, Option.toList_some, Option.toList_none, List.cons_append, List.nil_append, not_true_eq_false, not_false_eq_true, Nat.sub_zero, dsX7_look_0, dsX7_look_1, jsX7_look, xcX7_look, c3]
              exact no (by rw [hlk]; exact decide_eq_false c3)
          · have hz2 : ¬ nI h = 2 := by rw [e22]; exact c2
            have ct' : tornB X = false := by cases hh' : tornB X with
              | true => exact absurd hh' ct
              | false => rfl
            have hlk : lkf h a b lt X = (tch a b X && !tl) := by
              unfold lkf
              by_cases c0 : h = 0
              · rw [if_pos c0, ht1 c0]; unfold unp; rw [ct']; simp
              · rw [if_neg c0, if_pos (by omega), ht2 c0]; unfold unr; rw [ct']; simp
            by_cases c3 : tch a b X = true
            · rw [if_pos c3]
              cases tl with
              | true =>
                rw [if_pos rfl]
                refine e_g2 hG [(189, [0, 1, 2, 3, 4, 5])] 60 ?_
                simp only [e_wp_s, Option.getD_some, Option.isSome_some, Option.isSome_none, xis0, xis1, xis2, xis3, xis4, e_ks, lk_k, lk_c, List.lookup_nil, gt_c, vi_i, k1_n, k1_c, k2_n, k2_c, ar_n, ar_c, pk_n, pk_c, rm_0, rm_1, rm_2, rm_3, rm_4, rm_5, rc_9, rcs, fvs, rf_s, rf_n, isI_i, isL_l, isR_r, isR_n, isR_q, ct_i, ct_l, ct_r, ct_n, ct_q, tFs, tCs, tKs, tJs, tSs, e_nf, lgs, ↓reduceIte, true_and, and_true, false_and, and_false, or_true, true_or, false_or, or_false, Nat.reduceAdd, Nat.reduceEqDiff, Nat.reduceDiv, Nat.reduceLT, Nat.reduceLeDiff, Nat.zero_add, reduceCtorEq, Bool.false_eq_true, Option.toList_some, Option.toList_none, List.cons_append, List.nil_append, not_true_eq_false, not_false_eq_true, Nat.sub_zero, dsX7_look_0, dsX7_look_1, jsX7_look, xcX7_look, hz2, i10]
                exact no (by rw [hlk]; simp)
              | false =>
                rw [if_neg (by decide)]
                refine e_g2 hG [(168, [0, 1, 2, 3, 4, 5])] 60 ?_
                simp only [e_wp_s, Option.getD_some, Option.isSome_some, Option.isSome_none, xis0, xis1, xis2, xis3, xis4, e_ks, lk_k, lk_c, List.lookup_nil, gt_c, vi_i, k1_n, k1_c, k2_n, k2_c, ar_n, ar_c, pk_n, pk_c, rm_0, rm_1, rm_2, rm_3, rm_4, rm_5, rc_9, rcs, fvs, rf_s, rf_n, isI_i, isL_l, isR_r, isR_n, isR_q, ct_i, ct_l, ct_r, ct_n, ct_q, tFs, tCs, tKs, tJs, tSs, e_nf, lgs, ↓reduceIte, true_and, and_true, false_and, and_false, or_true, true_or, false_or, or_false, Nat.reduceAdd, Nat.reduceEqDiff, Nat.reduceDiv, Nat.reduceLT, Nat.reduceLeDiff, Nat.zero_add, reduceCtorEq, Bool.false_eq_true, Option.toList_some, Option.toList_none, List.cons_append, List.nil_append, not_true_eq_false, not_false_eq_true, Nat.sub_zero, dsX7_look_0, dsX7_look_1, jsX7_look, xcX7_look, hz2, i10]
                exact yes (by rw [hlk]; simp [c3])
            · rw [if_neg c3]
              cases tl with
              | true =>
                rw [if_pos rfl]
                refine e_g2 hG [(189, [0, 1, 2, 3, 4, 5])] 60 ?_
                simp only [e_wp_s, Option.getD_some, Option.isSome_some, Option.isSome_none, xis0, xis1, xis2, xis3, xis4, e_ks, lk_k, lk_c, List.lookup_nil, gt_c, vi_i, k1_n, k1_c, k2_n, k2_c, ar_n, ar_c, pk_n, pk_c, rm_0, rm_1, rm_2, rm_3, rm_4, rm_5, rc_9, rcs, fvs, rf_s, rf_n, isI_i, isL_l, isR_r, isR_n, isR_q, ct_i, ct_l, ct_r, ct_n, ct_q, tFs, tCs, tKs, tJs, tSs, e_nf, lgs, ↓reduceIte, true_and, and_true, false_and, and_false, or_true, true_or, false_or, or_false, Nat.reduceAdd, Nat.reduceEqDiff, Nat.reduceDiv, Nat.reduceLT, Nat.reduceLeDiff, Nat.zero_add, reduceCtorEq, Bool.false_eq_true, Option.toList_some, Option.toList_none, List.cons_append, List.nil_append, not_true_eq_false, not_false_eq_true, Nat.sub_zero, dsX7_look_0, dsX7_look_1, jsX7_look, xcX7_look, hz2, i10]
                exact no (by rw [hlk]; simp)
              | false =>
                rw [if_neg (by decide)]
                refine e_g2 hG [(189, [0, 1, 2, 3, 4, 5])] 60 ?_
                simp only [e_wp_s, Option.getD_some, Option.isSome_some, Option.isSome_none, xis0, xis1, xis2, xis3, xis4, e_ks, lk_k, lk_c, List.lookup_nil, gt_c, vi_i, k1_n, k1_c, k2_n, k2_c, ar_n, ar_c, pk_n, pk_c, rm_0, rm_1, rm_2, rm_3, rm_4, rm_5, rc_9, rcs, fvs, rf_s, rf_n, isI_i, isL_l, isR_r, isR_n, isR_q, ct_i, ct_l, ct_r, ct_n, ct_q, tFs, tCs, tKs, tJs, tSs, e_nf, lgs, ↓reduceIte, true_and, and_true, false_and, and_false, or_true, true_or, false_or, or_false, Nat.reduceAdd, Nat.reduceEqDiff, Nat.reduceDiv, Nat.reduceLT, Nat.reduceLeDiff, Nat.zero_add, reduceCtorEq, Bool.false_eq_true, Option.toList_some, Option.toList_none, List.cons_append, List.nil_append, not_true_eq_false, not_false_eq_true, Nat.sub_zero, dsX7_look_0, dsX7_look_1, jsX7_look, xcX7_look, hz2, i10]
                exact no (by rw [hlk]; simp [c3])
        refine e_g2 hG [(66, [0, 1, 2, 3, 4, 5, 6])] 60 ?_
        simp only [e_wp_s, Option.getD_some, Option.isSome_some, Option.isSome_none, xis0, xis1, xis2, xis3, xis4, e_ks, lk_k, lk_c, List.lookup_nil, gt_c, vi_i, k1_n, k1_c, k2_n, k2_c, ar_n, ar_c, pk_n, pk_c, rm_0, rm_1, rm_2, rm_3, rm_4, rm_5, rc_9, rcs, fvs, rf_s, rf_n, isI_i, isL_l, isR_r, isR_n, isR_q, ct_i, ct_l, ct_r, ct_n, ct_q, tFs, tCs, tKs, tJs, tSs, e_nf, lgs, ↓reduceIte, true_and, and_true, false_and, and_false, or_true, true_or, false_or, or_false, Nat.reduceAdd, Nat.reduceEqDiff, Nat.reduceDiv, Nat.reduceLT, Nat.reduceLeDiff, Nat.zero_add, reduceCtorEq, Bool.false_eq_true, Option.toList_some, Option.toList_none, List.cons_append, List.nil_append, not_true_eq_false, not_false_eq_true, Nat.sub_zero, dsX7_look_0, dsX7_look_1, jsX7_look, xcX7_look, g0, i10]
        refine ⟨A, s, k, bk, X, hMU, hs, hBU, hPU, rfl, rfl, hx, ?_⟩
        refine e_g2 hG [(69, [0, 1, 2, 3, 4, 5, 6])] 60 ?_
        simp only [e_wp_s, Option.getD_some, Option.isSome_some, Option.isSome_none, xis0, xis1, xis2, xis3, xis4, e_ks, lk_k, lk_c, List.lookup_nil, gt_c, vi_i, k1_n, k1_c, k2_n, k2_c, ar_n, ar_c, pk_n, pk_c, rm_0, rm_1, rm_2, rm_3, rm_4, rm_5, rc_9, rcs, fvs, rf_s, rf_n, isI_i, isL_l, isR_r, isR_n, isR_q, ct_i, ct_l, ct_r, ct_n, ct_q, tFs, tCs, tKs, tJs, tSs, e_nf, lgs, ↓reduceIte, true_and, and_true, false_and, and_false, or_true, true_or, false_or, or_false, Nat.reduceAdd, Nat.reduceEqDiff, Nat.reduceDiv, Nat.reduceLT, Nat.reduceLeDiff, Nat.zero_add, reduceCtorEq, Bool.false_eq_true, Option.toList_some, Option.toList_none, List.cons_append, List.nil_append, not_true_eq_false, not_false_eq_true, Nat.sub_zero, dsX7_look_0, dsX7_look_1, jsX7_look, xcX7_look, g0]
        refine ⟨A, s, lt, hMU, hs, hTU, rfl, ?_⟩
        by_cases c0 : h = 0
        · have hz : nI h = 0 := by rw [e20]; exact c0
          have dT := dec true
          have dF := dec false
          rw [if_pos (show true = true from rfl)] at dT
          rw [if_neg (show ¬ false = true by decide)] at dF
          rw [hz] at dT dF ⊢
          refine e_g2 hG [(83, [0, 1, 2, 3, 4, 5, 6, 7])] 60 ?_
          simp only [e_wp_s, Option.getD_some, Option.isSome_some, Option.isSome_none, xis0, xis1, xis2, xis3, xis4, e_ks, lk_k, lk_c, List.lookup_nil, gt_c, vi_i, k1_n, k1_c, k2_n, k2_c, ar_n, ar_c, pk_n, pk_c, rm_0, rm_1, rm_2, rm_3, rm_4, rm_5, rc_9, rcs, fvs, rf_s, rf_n, isI_i, isL_l, isR_r, isR_n, isR_q, ct_i, ct_l, ct_r, ct_n, ct_q, tFs, tCs, tKs, tJs, tSs, e_nf, lgs, ↓reduceIte, true_and, and_true, false_and, and_false, or_true, true_or, false_or, or_false, Nat.reduceAdd, Nat.reduceEqDiff, Nat.reduceDiv, Nat.reduceLT, Nat.reduceLeDiff, Nat.zero_add, reduceCtorEq, Bool.false_eq_true, Option.toList_some, Option.toList_none, List.cons_append, List.nil_append, not_true_eq_false, not_false_eq_true, Nat.sub_zero, dsX7_look_0, dsX7_look_1, jsX7_look, xcX7_look, g0]
          refine ⟨A, s, k, bk, X, hMU, hs, hBU, hPU, rfl, rfl, hx, ?_⟩
          by_cases c4 : fst1 X.1 < a
          · refine e_g2 hG [(136, [0, 1, 2, 3, 4, 5, 6])] 60 ?_
            simp only [e_wp_s, Option.getD_some, Option.isSome_some, Option.isSome_none, xis0, xis1, xis2, xis3, xis4, e_ks, lk_k, lk_c, List.lookup_nil, gt_c, vi_i, k1_n, k1_c, k2_n, k2_c, ar_n, ar_c, pk_n, pk_c, rm_0, rm_1, rm_2, rm_3, rm_4, rm_5, rc_9, rcs, fvs, rf_s, rf_n, isI_i, isL_l, isR_r, isR_n, isR_q, ct_i, ct_l, ct_r, ct_n, ct_q, tFs, tCs, tKs, tJs, tSs, e_nf, lgs, ↓reduceIte, true_and, and_true, false_and, and_false, or_true, true_or, false_or, or_false, Nat.reduceAdd, Nat.reduceEqDiff, Nat.reduceDiv, Nat.reduceLT, Nat.reduceLeDiff, Nat.zero_add, reduceCtorEq, Bool.false_eq_true, Option.toList_some, Option.toList_none, List.cons_append, List.nil_append, not_true_eq_false, not_false_eq_true, Nat.sub_zero, dsX7_look_0, dsX7_look_1, jsX7_look, xcX7_look, c4]
            exact dF (fun _ => by unfold wth; simp [c4]) (fun q => absurd c0 q)
          · refine e_g2 hG [(94, [0, 1, 2, 3, 4, 5, 6, 7])] 60 ?_
            simp only [e_wp_s, Option.getD_some, Option.isSome_some, Option.isSome_none, xis0, xis1, xis2, xis3, xis4, e_ks, lk_k, lk_c, List.lookup_nil, gt_c, vi_i, k1_n, k1_c, k2_n, k2_c, ar_n, ar_c, pk_n, pk_c, rm_0, rm_1, rm_2, rm_3, rm_4, rm_5, rc_9, rcs, fvs, rf_s, rf_n, isI_i, isL_l, isR_r, isR_n, isR_q, ct_i, ct_l, ct_r, ct_n, ct_q, tFs, tCs, tKs, tJs, tSs, e_nf, lgs, ↓reduceIte, true_and, and_true, false_and, and_false, or_true, true_or, false_or, or_false, Nat.reduceAdd, Nat.reduceEqDiff, Nat.reduceDiv, Nat.reduceLT, Nat.reduceLeDiff, Nat.zero_add, reduceCtorEq, Bool.false_eq_true, Option.toList_some, Option.toList_none, List.cons_append, List.nil_append, not_true_eq_false, not_false_eq_true, Nat.sub_zero, dsX7_look_0, dsX7_look_1, jsX7_look, xcX7_look, g0, c4]
            refine ⟨A, s, k, bk, X, hMU, hs, hBU, hPU, rfl, rfl, hx, ?_⟩
            by_cases c5 : eT (enc X.1) < b
            · have hw : wth a b X = true := by unfold wth; simp [Int32.not_lt.mp c4, c5]
              by_cases c6 : lbl (fst1 X.1) lt = lt.length
              · have e6 : nI (lbl (fst1 X.1) lt) = nI lt.length := by rw [c6]
                have hf : hasFT lt (fst1 X.1) (eT (enc X.1)) = false := by unfold hasFT; rw [List.getElem?_eq_none (by omega)]
                refine e_g2 hG [(136, [0, 1, 2, 3, 4, 5, 6])] 60 ?_
                simp only [e_wp_s, Option.getD_some, Option.isSome_some, Option.isSome_none, xis0, xis1, xis2, xis3, xis4, e_ks, lk_k, lk_c, List.lookup_nil, gt_c, vi_i, k1_n, k1_c, k2_n, k2_c, ar_n, ar_c, pk_n, pk_c, rm_0, rm_1, rm_2, rm_3, rm_4, rm_5, rc_9, rcs, fvs, rf_s, rf_n, isI_i, isL_l, isR_r, isR_n, isR_q, ct_i, ct_l, ct_r, ct_n, ct_q, tFs, tCs, tKs, tJs, tSs, e_nf, lgs, ↓reduceIte, true_and, and_true, false_and, and_false, or_true, true_or, false_or, or_false, Nat.reduceAdd, Nat.reduceEqDiff, Nat.reduceDiv, Nat.reduceLT, Nat.reduceLeDiff, Nat.zero_add, reduceCtorEq, Bool.false_eq_true, Option.toList_some, Option.toList_none, List.cons_append, List.nil_append, not_true_eq_false, not_false_eq_true, Nat.sub_zero, dsX7_look_0, dsX7_look_1, jsX7_look, xcX7_look, g0, r229, k229, l229, sc, sv, v2, c5, e6]
                exact dT (fun _ => by rw [hw, hf]; rfl) (fun q => absurd c0 q)
              · have e6 : ¬ nI (lbl (fst1 X.1) lt) = nI lt.length := fun q => c6 ((nI_eq (by omega) (by omega)).mp q)
                obtain ⟨r, hr⟩ : ∃ r, lt[lbl (fst1 X.1) lt]? = some r := ⟨_, List.getElem?_eq_getElem (by omega)⟩
                obtain ⟨w1, w2, w3, w4⟩ := mT_at hTU hr
                have i1 : (nI (50 * s + lbl (fst1 X.1) lt)).toNatClampNeg = 50 * s + lbl (fst1 X.1) lt := nI_clamp (by omega)
                have i2 : vp_in (nI (50 * s + lbl (fst1 X.1) lt)) 400 := vp_in_nI (by omega) (by decide)
                have hf : hasFT lt (fst1 X.1) (eT (enc X.1)) = decide (¬ eT (enc X.1) < r.1) := by unfold hasFT; rw [hr]
                refine e_g2 hG [(128, [0, 1, 2, 3, 4, 5, 6])] 60 ?_
                simp only [e_wp_s, Option.getD_some, Option.isSome_some, Option.isSome_none, xis0, xis1, xis2, xis3, xis4, e_ks, lk_k, lk_c, List.lookup_nil, gt_c, vi_i, k1_n, k1_c, k2_n, k2_c, ar_n, ar_c, pk_n, pk_c, rm_0, rm_1, rm_2, rm_3, rm_4, rm_5, rc_9, rcs, fvs, rf_s, rf_n, isI_i, isL_l, isR_r, isR_n, isR_q, ct_i, ct_l, ct_r, ct_n, ct_q, tFs, tCs, tKs, tJs, tSs, e_nf, lgs, ↓reduceIte, true_and, and_true, false_and, and_false, or_true, true_or, false_or, or_false, Nat.reduceAdd, Nat.reduceEqDiff, Nat.reduceDiv, Nat.reduceLT, Nat.reduceLeDiff, Nat.zero_add, reduceCtorEq, Bool.false_eq_true, Option.toList_some, Option.toList_none, List.cons_append, List.nil_append, not_true_eq_false, not_false_eq_true, Nat.sub_zero, dsX7_look_0, dsX7_look_1, jsX7_look, xcX7_look, g0, r229, k229, l229, r233, k233, l233, sc, sv, v2, c5, e6, l50, i1, i2, w1]
                refine ⟨A, s, k, bk, X, hMU, hs, hBU, hPU, rfl, rfl, hx, ?_⟩
                by_cases c7 : eT (enc X.1) < r.1
                · refine e_g2 hG [(136, [0, 1, 2, 3, 4, 5, 6])] 60 ?_
                  simp only [e_wp_s, Option.getD_some, Option.isSome_some, Option.isSome_none, xis0, xis1, xis2, xis3, xis4, e_ks, lk_k, lk_c, List.lookup_nil, gt_c, vi_i, k1_n, k1_c, k2_n, k2_c, ar_n, ar_c, pk_n, pk_c, rm_0, rm_1, rm_2, rm_3, rm_4, rm_5, rc_9, rcs, fvs, rf_s, rf_n, isI_i, isL_l, isR_r, isR_n, isR_q, ct_i, ct_l, ct_r, ct_n, ct_q, tFs, tCs, tKs, tJs, tSs, e_nf, lgs, ↓reduceIte, true_and, and_true, false_and, and_false, or_true, true_or, false_or, or_false, Nat.reduceAdd, Nat.reduceEqDiff, Nat.reduceDiv, Nat.reduceLT, Nat.reduceLeDiff, Nat.zero_add, reduceCtorEq, Bool.false_eq_true, Option.toList_some, Option.toList_none, List.cons_append, List.nil_append, not_true_eq_false, not_false_eq_true, Nat.sub_zero, dsX7_look_0, dsX7_look_1, jsX7_look, xcX7_look, c7]
                  exact dT (fun _ => by rw [hw, hf]; simp [c7]) (fun q => absurd c0 q)
                · refine e_g2 hG [(136, [0, 1, 2, 3, 4, 5, 6])] 60 ?_
                  simp only [e_wp_s, Option.getD_some, Option.isSome_some, Option.isSome_none, xis0, xis1, xis2, xis3, xis4, e_ks, lk_k, lk_c, List.lookup_nil, gt_c, vi_i, k1_n, k1_c, k2_n, k2_c, ar_n, ar_c, pk_n, pk_c, rm_0, rm_1, rm_2, rm_3, rm_4, rm_5, rc_9, rcs, fvs, rf_s, rf_n, isI_i, isL_l, isR_r, isR_n, isR_q, ct_i, ct_l, ct_r, ct_n, ct_q, tFs, tCs, tKs, tJs, tSs, e_nf, lgs, ↓reduceIte, true_and, and_true, false_and, and_false, or_true, true_or, false_or, or_false, Nat.reduceAdd, Nat.reduceEqDiff, Nat.reduceDiv, Nat.reduceLT, Nat.reduceLeDiff, Nat.zero_add, reduceCtorEq, Bool.false_eq_true, Option.toList_some, Option.toList_none, List.cons_append, List.nil_append, not_true_eq_false, not_false_eq_true, Nat.sub_zero, dsX7_look_0, dsX7_look_1, jsX7_look, xcX7_look, c7]
                  exact dF (fun _ => by rw [hw, hf]; simp [Int32.not_lt.mp c7]) (fun q => absurd c0 q)
            · refine e_g2 hG [(136, [0, 1, 2, 3, 4, 5, 6])] 60 ?_
              simp only [e_wp_s, Option.getD_some, Option.isSome_some, Option.isSome_none, xis0, xis1, xis2, xis3, xis4, e_ks, lk_k, lk_c, List.lookup_nil, gt_c, vi_i, k1_n, k1_c, k2_n, k2_c, ar_n, ar_c, pk_n, pk_c, rm_0, rm_1, rm_2, rm_3, rm_4, rm_5, rc_9, rcs, fvs, rf_s, rf_n, isI_i, isL_l, isR_r, isR_n, isR_q, ct_i, ct_l, ct_r, ct_n, ct_q, tFs, tCs, tKs, tJs, tSs, e_nf, lgs, ↓reduceIte, true_and, and_true, false_and, and_false, or_true, true_or, false_or, or_false, Nat.reduceAdd, Nat.reduceEqDiff, Nat.reduceDiv, Nat.reduceLT, Nat.reduceLeDiff, Nat.zero_add, reduceCtorEq, Bool.false_eq_true, Option.toList_some, Option.toList_none, List.cons_append, List.nil_append, not_true_eq_false, not_false_eq_true, Nat.sub_zero, dsX7_look_0, dsX7_look_1, jsX7_look, xcX7_look, c5]
              exact dF (fun _ => by unfold wth; simp [c5]) (fun q => absurd c0 q)
        · have hz : ¬ nI h = 0 := by rw [e20]; exact c0
          refine e_g2 hG [(136, [0, 1, 2, 3, 4, 5, 6])] 60 ?_
          simp only [e_wp_s, Option.getD_some, Option.isSome_some, Option.isSome_none, xis0, xis1, xis2, xis3, xis4, e_ks, lk_k, lk_c, List.lookup_nil, gt_c, vi_i, k1_n, k1_c, k2_n, k2_c, ar_n, ar_c, pk_n, pk_c, rm_0, rm_1, rm_2, rm_3, rm_4, rm_5, rc_9, rcs, fvs, rf_s, rf_n, isI_i, isL_l, isR_r, isR_n, isR_q, ct_i, ct_l, ct_r, ct_n, ct_q, tFs, tCs, tKs, tJs, tSs, e_nf, lgs, ↓reduceIte, true_and, and_true, false_and, and_false, or_true, true_or, false_or, or_false, Nat.reduceAdd, Nat.reduceEqDiff, Nat.reduceDiv, Nat.reduceLT, Nat.reduceLeDiff, Nat.zero_add, reduceCtorEq, Bool.false_eq_true, Option.toList_some, Option.toList_none, List.cons_append, List.nil_append, not_true_eq_false, not_false_eq_true, Nat.sub_zero, dsX7_look_0, dsX7_look_1, jsX7_look, xcX7_look, hz]
          exact dec false (fun q => absurd q c0) (fun _ => rfl)
  refine e_g2 hG [(3, [0, 1, 2, 3, 4, 5])] 60 ?_
  simp only [e_wp_s, Option.getD_some, Option.isSome_some, Option.isSome_none, xis0, xis1, xis2, xis3, xis4, e_ks, lk_k, lk_c, List.lookup_nil, gt_c, vi_i, k1_n, k1_c, k2_n, k2_c, ar_n, ar_c, pk_n, pk_c, rm_0, rm_1, rm_2, rm_3, rm_4, rm_5, rc_9, rcs, fvs, rf_s, rf_n, isI_i, isL_l, isR_r, isR_n, isR_q, ct_i, ct_l, ct_r, ct_n, ct_q, tFs, tCs, tKs, tJs, tSs, e_nf, lgs, ↓reduceIte, true_and, and_true, false_and, and_false, or_true, true_or, false_or, or_false, Nat.reduceAdd, Nat.reduceEqDiff, Nat.reduceDiv, Nat.reduceLT, Nat.reduceLeDiff, Nat.zero_add, reduceCtorEq, Bool.false_eq_true, Option.toList_some, Option.toList_none, List.cons_append, List.nil_append, not_true_eq_false, not_false_eq_true, Nat.sub_zero, dsX7_look_0, dsX7_look_1, jsX7_look, xcX7_look]
  exact loop bk.length 0 M (by omega) MC.rf (by rw [z1]; rfl) z2 (by rw [z3]; rfl)
def askM (S : SER) (a b : Int32) (u : QV) : QV := qfold ptQ (qfold (spQ a b) u S.2.2.1) ((takA S.2.2.2.2 (mpts (unt S.2.2.2.1))).filter (wn a b))
theorem fil_take {l : List PT} {f : PT → Bool} {i : Nat} {x : PT} (hx : l[i]? = some x) (u : QV) : qfold ptQ u ((l.take (i + 1)).filter f) = if f x then qadd (qfold ptQ u ((l.take i).filter f)) (ptQ x) else qfold ptQ u ((l.take i).filter f) := by
  rw [take_f hx]
  split
  · rw [qfold_snoc]
  · rw [List.append_nil]
def csX7_counted : CS := (cs_c 0 223 2 7 sp_X7_take (cs_c 0 226 4 7 sp_X7_isIn cs_0))
theorem csoX7_counted : ∀ op x na cl sp, csX7_counted op x = some (na, cl, sp) → CallOK 7 4 93 op x na cl sp := (cs_c_ok (caX7_counted_223 okX7_take) (cs_c_ok (caX7_counted_226 okX7_isIn) cs_0_ok))
theorem xcX7_counted : (∀ (Q : QT) (G : GT) (pc : Nat) (L : LV) (a0 a1 : Value) (r : List Value) (M : HM) (k n : Nat), ex_i 7 6 1 false csX7_counted Q G (.invokevirtual 223) pc L (a1 :: a0 :: r) M k n = (e_rm r ∧ e_rc M 7 [a0, a1] ∧ sp_X7_take [a0, a1] M k n (fun v M' k' n' => G (pc + 3) L (v.toList ++ r) M' k' n'))) ∧ (∀ (Q : QT) (G : GT) (pc : Nat) (L : LV) (a0 a1 a2 a3 : Value) (r : List Value) (M : HM) (k n : Nat), ex_i 7 6 1 false csX7_counted Q G (.invokevirtual 226) pc L (a3 :: a2 :: a1 :: a0 :: r) M k n = (e_rm r ∧ e_rc M 7 [a0, a1, a2, a3] ∧ sp_X7_isIn [a0, a1, a2, a3] M k n (fun v M' k' n' => G (pc + 3) L (v.toList ++ r) M' k' n'))) := ⟨(fun _ _ _ _ _ _ _ _ _ _ => xv0_2 rfl), (fun _ _ _ _ _ _ _ _ _ _ _ _ => xv0_4 rfl)⟩
def sp_X7_counted : SP := fun as M k n Q => match as with
  | [.ref m, .int i, .int a, .int b] => ∃ O A s S, MS A M m ∧ GO O A m ∧ s < 8 ∧ MSer A M s S ∧ szOK 400 S.2.2.1 ∧ i = nI s ∧ ∀ U, MC O A m [251, 252, 253] M U → Q (some (.int (nI (askM S a b q0).1))) U k n
  | _ => False
theorem okX7_counted : OkX7_counted sp_X7_counted := by
  refine inX7_counted csoX7_counted ?_
  intro as M k n Q hsp
  unfold sp_X7_counted at hsp
  split at hsp
  rotate_left
  · exact hsp.elim
  rename_i m i a b
  obtain ⟨O, A, s, S, hM, hO, hs, hS, hz, rfl, hq⟩ := hsp
  have sc : (nI s).toNatClampNeg = s := nI_clamp (by omega)
  have sv : vp_in (nI s) 8 := vp_in_nI hs (by decide)
  have h0 := hM.1
  refine ⟨0, 0, Nat.zero_le _, Nat.zero_le _, Nat.le_of_ble_eq_true rfl, fun G hG => ?_⟩
  refine e_g2 hG [(5, [0, 1, 2, 3])] 60 ?_
  simp only [e_wp_s, Option.getD_some, Option.isSome_some, Option.isSome_none, xis0, xis1, xis2, xis3, xis4, e_ks, lk_k, lk_c, List.lookup_nil, gt_c, vi_i, k1_n, k1_c, k2_n, k2_c, ar_n, ar_c, pk_n, pk_c, rm_0, rm_1, rm_2, rm_3, rm_4, rm_5, rc_9, rcs, fvs, rf_s, rf_n, isI_i, isL_l, isR_r, isR_n, isR_q, ct_i, ct_l, ct_r, ct_n, ct_q, tFs, tCs, tKs, tJs, tSs, e_nf, lgs, ↓reduceIte, true_and, and_true, false_and, and_false, or_true, true_or, false_or, or_false, Nat.reduceAdd, Nat.reduceEqDiff, Nat.reduceDiv, Nat.reduceLT, Nat.reduceLeDiff, Nat.zero_add, reduceCtorEq, Bool.false_eq_true, Option.toList_some, Option.toList_none, List.cons_append, List.nil_append, not_true_eq_false, not_false_eq_true, Nat.sub_zero, dsX7_counted, jsX7_counted, xcX7_counted, h0]
  refine ⟨O, A, s, S, hM, hO, hs, hS, rfl, fun U hC hA => ?_⟩
  have hq := hq U hC
  unfold askM at hq
  generalize takA S.2.2.2.2 (mpts (unt S.2.2.2.1)) = T at *
  have hSU := hC.mSp (fun f h1 h2 => by intro hf; simp at hf; omega) (by decide) hS.2.2.2.2
  have s60 := hSU.2.1
  have hMU := hC.ms hM
  have g0 := hMU.1
  obtain ⟨r230, k230, l230⟩ : mR U 230 m = some (A 230) ∧ mK U (A 230) = 9 ∧ mN U (A 230) = 8 := hMU.2 230 rfl
  obtain ⟨r239, k239, l239⟩ : mR U 239 m = some (A 239) ∧ mK U (A 239) = 9 ∧ mN U (A 239) = 560 := hMU.2 239 rfl
  obtain ⟨r251, k251, l251⟩ : mR U 251 m = some (A 251) ∧ mK U (A 251) = 9 ∧ mN U (A 251) = 350 := hMU.2 251 rfl
  have v1 := hSU.1
  have l0 : (70 : Int32) * nI s = nI (70 * s) := nI_mul 70 s
  generalize hsp : S.2.2.1 = sp at *
  have hAc := hA.1
  have hAl := hA.2.1
  have pts : ∀ d k, k + d = T.length → G 66 [(0, .ref m), (2, .int a), (3, .int b), (4, .int (nI (qfold ptQ (qfold (spQ a b) q0 sp) ((T.take k).filter (wn a b))).1)), (5, .int (nI k))] [] U 0 0 := by
    intro d
    induction d with
    | zero =>
      intro k hk
      have e1 : ¬ nI k < nI T.length := nI_nlt (by omega) (by omega)
      refine e_g2 hG [] 60 ?_
      simp only [e_wp_s, Option.getD_some, Option.isSome_some, Option.isSome_none, xis0, xis1, xis2, xis3, xis4, e_ks, lk_k, lk_c, List.lookup_nil, gt_c, vi_i, k1_n, k1_c, k2_n, k2_c, ar_n, ar_c, pk_n, pk_c, rm_0, rm_1, rm_2, rm_3, rm_4, rm_5, rc_9, rcs, fvs, rf_s, rf_n, isI_i, isL_l, isR_r, isR_n, isR_q, ct_i, ct_l, ct_r, ct_n, ct_q, tFs, tCs, tKs, tJs, tSs, e_nf, lgs, ↓reduceIte, true_and, and_true, false_and, and_false, or_true, true_or, false_or, or_false, Nat.reduceAdd, Nat.reduceEqDiff, Nat.reduceDiv, Nat.reduceLT, Nat.reduceLeDiff, Nat.zero_add, reduceCtorEq, Bool.false_eq_true, Option.toList_some, Option.toList_none, List.cons_append, List.nil_append, not_true_eq_false, not_false_eq_true, Nat.sub_zero, dsX7_counted, jsX7_counted, xcX7_counted, g0, hAc, e1]
      rw [List.take_of_length_le (by omega)]
      exact hq
    | succ d ih =>
      intro k hk
      have e1 : nI k < nI T.length := nI_lt (by omega) (by omega)
      obtain ⟨p, hp⟩ : ∃ p, T[k]? = some p := ⟨_, List.getElem?_eq_getElem (by omega)⟩
      have hp2 := rdf_at hA.2.2 hp
      rw [Nat.zero_add] at hp2
      have t1 : aI U (A 251) k = p.1 := by rw [← hp2]
      have i1 : (nI k).toNatClampNeg = k := nI_clamp (by omega)
      have i2 : vp_in (nI k) 350 := vp_in_nI (by omega) (by decide)
      have ih2 := ih (k + 1) (by omega)
      rw [fil_take hp] at ih2
      by_cases c1 : p.1 < a
      · rw [if_neg (by unfold wn; simp [c1])] at ih2
        refine e_g2 hG [(66, [0, 2, 3, 4, 5])] 60 ?_
        simp only [e_wp_s, Option.getD_some, Option.isSome_some, Option.isSome_none, xis0, xis1, xis2, xis3, xis4, e_ks, lk_k, lk_c, List.lookup_nil, gt_c, vi_i, k1_n, k1_c, k2_n, k2_c, ar_n, ar_c, pk_n, pk_c, rm_0, rm_1, rm_2, rm_3, rm_4, rm_5, rc_9, rcs, fvs, rf_s, rf_n, isI_i, isL_l, isR_r, isR_n, isR_q, ct_i, ct_l, ct_r, ct_n, ct_q, tFs, tCs, tKs, tJs, tSs, e_nf, lgs, ↓reduceIte, true_and, and_true, false_and, and_false, or_true, true_or, false_or, or_false, Nat.reduceAdd, Nat.reduceEqDiff, Nat.reduceDiv, Nat.reduceLT, Nat.reduceLeDiff, Nat.zero_add, reduceCtorEq, Bool.false_eq_true, Option.toList_some, Option.toList_none, List.cons_append, List.nil_append, not_true_eq_false, not_false_eq_true, Nat.sub_zero, dsX7_counted, jsX7_counted, xcX7_counted, g0, r251, k251, l251, hAc, e1, i1, i2, t1, c1, nI_1]
        rw [Int32.add_zero]
        exact ih2
      · by_cases c2 : p.1 < b
        · rw [if_pos (by unfold wn; simp [c2, Int32.not_lt.mp c1])] at ih2
          have e3 : (qadd (qfold ptQ (qfold (spQ a b) q0 sp) ((T.take k).filter (wn a b))) (ptQ p)).1 = (qfold ptQ (qfold (spQ a b) q0 sp) ((T.take k).filter (wn a b))).1 + 1 := rfl
          rw [e3] at ih2
          refine e_g2 hG [(66, [0, 2, 3, 4, 5])] 60 ?_
          simp only [e_wp_s, Option.getD_some, Option.isSome_some, Option.isSome_none, xis0, xis1, xis2, xis3, xis4, e_ks, lk_k, lk_c, List.lookup_nil, gt_c, vi_i, k1_n, k1_c, k2_n, k2_c, ar_n, ar_c, pk_n, pk_c, rm_0, rm_1, rm_2, rm_3, rm_4, rm_5, rc_9, rcs, fvs, rf_s, rf_n, isI_i, isL_l, isR_r, isR_n, isR_q, ct_i, ct_l, ct_r, ct_n, ct_q, tFs, tCs, tKs, tJs, tSs, e_nf, lgs, ↓reduceIte, true_and, and_true, false_and, and_false, or_true, true_or, false_or, or_false, Nat.reduceAdd, Nat.reduceEqDiff, Nat.reduceDiv, Nat.reduceLT, Nat.reduceLeDiff, Nat.zero_add, reduceCtorEq, Bool.false_eq_true, Option.toList_some, Option.toList_none, List.cons_append, List.nil_append, not_true_eq_false, not_false_eq_true, Nat.sub_zero, dsX7_counted, jsX7_counted, xcX7_counted, g0, r251, k251, l251, hAc, e1, i1, i2, t1, c1, c2, nI_1]
          exact ih2
        · rw [if_neg (by unfold wn; simp [c2])] at ih2
          refine e_g2 hG [(66, [0, 2, 3, 4, 5])] 60 ?_
          simp only [e_wp_s, Option.getD_some, Option.isSome_some, Option.isSome_none, xis0, xis1, xis2, xis3, xis4, e_ks, lk_k, lk_c, List.lookup_nil, gt_c, vi_i, k1_n, k1_c, k2_n, k2_c, ar_n, ar_c, pk_n, pk_c, rm_0, rm_1, rm_2, rm_3, rm_4, rm_5, rc_9, rcs, fvs, rf_s, rf_n, isI_i, isL_l, isR_r, isR_n, isR_q, ct_i, ct_l, ct_r, ct_n, ct_q, tFs, tCs, tKs, tJs, tSs, e_nf, lgs, ↓reduceIte, true_and, and_true, false_and, and_false, or_true, true_or, false_or, or_false, Nat.reduceAdd, Nat.reduceEqDiff, Nat.reduceDiv, Nat.reduceLT, Nat.reduceLeDiff, Nat.zero_add, reduceCtorEq, Bool.false_eq_true, Option.toList_some, Option.toList_none, List.cons_append, List.nil_append, not_true_eq_false, not_false_eq_true, Nat.sub_zero, dsX7_counted, jsX7_counted, xcX7_counted, g0, r251, k251, l251, hAc, e1, i1, i2, t1, c1, c2, nI_1]
          rw [Int32.add_zero]
          exact ih2
  have spl : ∀ d k, k + d = sp.length → G 14 [(0, .ref m), (1, .int (nI s)), (2, .int a), (3, .int b), (4, .int (nI (qfold (spQ a b) q0 (sp.take k)).1)), (5, .int (nI (70 * s + k)))] [] U 0 0 := by
    intro d
    induction d with
    | zero =>
      intro k hk
      have e1 : ¬ nI (70 * s + k) < nI (70 * s + sp.length) := nI_nlt (by omega) (by omega)
      refine e_g2 hG [(66, [0, 2, 3, 4, 5])] 60 ?_
      simp only [e_wp_s, Option.getD_some, Option.isSome_some, Option.isSome_none, xis0, xis1, xis2, xis3, xis4, e_ks, lk_k, lk_c, List.lookup_nil, gt_c, vi_i, k1_n, k1_c, k2_n, k2_c, ar_n, ar_c, pk_n, pk_c, rm_0, rm_1, rm_2, rm_3, rm_4, rm_5, rc_9, rcs, fvs, rf_s, rf_n, isI_i, isL_l, isR_r, isR_n, isR_q, ct_i, ct_l, ct_r, ct_n, ct_q, tFs, tCs, tKs, tJs, tSs, e_nf, lgs, ↓reduceIte, true_and, and_true, false_and, and_false, or_true, true_or, false_or, or_false, Nat.reduceAdd, Nat.reduceEqDiff, Nat.reduceDiv, Nat.reduceLT, Nat.reduceLeDiff, Nat.zero_add, reduceCtorEq, Bool.false_eq_true, Option.toList_some, Option.toList_none, List.cons_append, List.nil_append, not_true_eq_false, not_false_eq_true, Nat.sub_zero, dsX7_counted, jsX7_counted, xcX7_counted, g0, r230, k230, l230, sc, sv, v1, l70, e1]
      rw [List.take_of_length_le (by omega)]
      exact pts T.length 0 (by omega)
    | succ d ih =>
      intro k hk
      have e1 : nI (70 * s + k) < nI (70 * s + sp.length) := nI_lt (by omega) (by omega)
      obtain ⟨x, hx⟩ : ∃ x, sp[k]? = some x := ⟨_, List.getElem?_eq_getElem (by omega)⟩
      obtain ⟨w1, w2, w3⟩ := mSp_at hSU hx
      obtain ⟨mm, z1, z2, z3⟩ := hz x (List.mem_of_getElem? hx)
      have y1 : aI U (A 239) (70 * s + k) = nI mm := by rw [← z1, ← w1]; rfl
      have hsz : szN x = mm := by unfold szN; rw [z1, nI_clamp (by omega)]
      have i1 : (nI (70 * s + k)).toNatClampNeg = 70 * s + k := nI_clamp (by omega)
      have i2 : vp_in (nI (70 * s + k)) 560 := vp_in_nI (by omega) (by decide)
      have ih2 := ih (k + 1) (by omega)
      rw [take_1 hx, qfold_snoc] at ih2
      refine e_g2 hG [(40, [0, 1, 2, 3, 5])] 60 ?_
      simp only [e_wp_s, Option.getD_some, Option.isSome_some, Option.isSome_none, xis0, xis1, xis2, xis3, xis4, e_ks, lk_k, lk_c, List.lookup_nil, gt_c, vi_i, k1_n, k1_c, k2_n, k2_c, ar_n, ar_c, pk_n, pk_c, rm_0, rm_1, rm_2, rm_3, rm_4, rm_5, rc_9, rcs, fvs, rf_s, rf_n, isI_i, isL_l, isR_r, isR_n, isR_q, ct_i, ct_l, ct_r, ct_n, ct_q, tFs, tCs, tKs, tJs, tSs, e_nf, lgs, ↓reduceIte, true_and, and_true, false_and, and_false, or_true, true_or, false_or, or_false, Nat.reduceAdd, Nat.reduceEqDiff, Nat.reduceDiv, Nat.reduceLT, Nat.reduceLeDiff, Nat.zero_add, reduceCtorEq, Bool.false_eq_true, Option.toList_some, Option.toList_none, List.cons_append, List.nil_append, not_true_eq_false, not_false_eq_true, Nat.sub_zero, dsX7_counted, jsX7_counted, xcX7_counted, g0, r230, k230, l230, sc, sv, v1, l70, e1]
      refine ⟨A, 70 * s + k, hMU, rfl, by omega, ?_⟩
      rw [w1]
      by_cases c1 : inSp a b x = true
      · have e3 : (qadd (qfold (spQ a b) q0 (sp.take k)) (spQ a b x)).1 = (qfold (spQ a b) q0 (sp.take k)).1 + mm := by
          unfold spQ; rw [if_pos c1, hsz]; rfl
        rw [e3] at ih2
        rw [if_pos c1]
        refine e_g2 hG [(14, [0, 1, 2, 3, 4, 5])] 60 ?_
        simp only [e_wp_s, Option.getD_some, Option.isSome_some, Option.isSome_none, xis0, xis1, xis2, xis3, xis4, e_ks, lk_k, lk_c, List.lookup_nil, gt_c, vi_i, k1_n, k1_c, k2_n, k2_c, ar_n, ar_c, pk_n, pk_c, rm_0, rm_1, rm_2, rm_3, rm_4, rm_5, rc_9, rcs, fvs, rf_s, rf_n, isI_i, isL_l, isR_r, isR_n, isR_q, ct_i, ct_l, ct_r, ct_n, ct_q, tFs, tCs, tKs, tJs, tSs, e_nf, lgs, ↓reduceIte, true_and, and_true, false_and, and_false, or_true, true_or, false_or, or_false, Nat.reduceAdd, Nat.reduceEqDiff, Nat.reduceDiv, Nat.reduceLT, Nat.reduceLeDiff, Nat.zero_add, reduceCtorEq, Bool.false_eq_true, Option.toList_some, Option.toList_none, List.cons_append, List.nil_append, not_true_eq_false, not_false_eq_true, Nat.sub_zero, dsX7_counted, jsX7_counted, xcX7_counted, g0, r239, k239, l239, i10, i1, i2, y1, nI_add, nI_1]
        exact ih2
      · have e3 : spQ a b x = q0 := by unfold spQ; rw [if_neg c1]
        rw [e3, qadd_0] at ih2
        rw [if_neg c1]
        refine e_g2 hG [(14, [0, 1, 2, 3, 4, 5])] 60 ?_
        simp only [e_wp_s, Option.getD_some, Option.isSome_some, Option.isSome_none, xis0, xis1, xis2, xis3, xis4, e_ks, lk_k, lk_c, List.lookup_nil, gt_c, vi_i, k1_n, k1_c, k2_n, k2_c, ar_n, ar_c, pk_n, pk_c, rm_0, rm_1, rm_2, rm_3, rm_4, rm_5, rc_9, rcs, fvs, rf_s, rf_n, isI_i, isL_l, isR_r, isR_n, isR_q, ct_i, ct_l, ct_r, ct_n, ct_q, tFs, tCs, tKs, tJs, tSs, e_nf, lgs, ↓reduceIte, true_and, and_true, false_and, and_false, or_true, true_or, false_or, or_false, Nat.reduceAdd, Nat.reduceEqDiff, Nat.reduceDiv, Nat.reduceLT, Nat.reduceLeDiff, Nat.zero_add, reduceCtorEq, Bool.false_eq_true, Option.toList_some, Option.toList_none, List.cons_append, List.nil_append, not_true_eq_false, not_false_eq_true, Nat.sub_zero, dsX7_counted, jsX7_counted, xcX7_counted, i10, nI_1]
        rw [Int32.add_zero]
        exact ih2
  refine e_g2 hG [(14, [0, 1, 2, 3, 4, 5])] 60 ?_
  simp only [e_wp_s, Option.getD_some, Option.isSome_some, Option.isSome_none, xis0, xis1, xis2, xis3, xis4, e_ks, lk_k, lk_c, List.lookup_nil, gt_c, vi_i, k1_n, k1_c, k2_n, k2_c, ar_n, ar_c, pk_n, pk_c, rm_0, rm_1, rm_2, rm_3, rm_4, rm_5, rc_9, rcs, fvs, rf_s, rf_n, isI_i, isL_l, isR_r, isR_n, isR_q, ct_i, ct_l, ct_r, ct_n, ct_q, tFs, tCs, tKs, tJs, tSs, e_nf, lgs, ↓reduceIte, true_and, and_true, false_and, and_false, or_true, true_or, false_or, or_false, Nat.reduceAdd, Nat.reduceEqDiff, Nat.reduceDiv, Nat.reduceLT, Nat.reduceLeDiff, Nat.zero_add, reduceCtorEq, Bool.false_eq_true, Option.toList_some, Option.toList_none, List.cons_append, List.nil_append, not_true_eq_false, not_false_eq_true, Nat.sub_zero, dsX7_counted, jsX7_counted, xcX7_counted, l0]
  exact spl sp.length 0 (by omega)
def csX7_summed : CS := (cs_c 0 223 2 7 sp_X7_take (cs_c 0 226 4 7 sp_X7_isIn cs_0))
theorem csoX7_summed : ∀ op x na cl sp, csX7_summed op x = some (na, cl, sp) → CallOK 7 4 93 op x na cl sp := (cs_c_ok (caX7_summed_223 okX7_take) (cs_c_ok (caX7_summed_226 okX7_isIn) cs_0_ok))
theorem xcX7_summed : (∀ (Q : QT) (G : GT) (pc : Nat) (L : LV) (a0 a1 : Value) (r : List Value) (M : HM) (k n : Nat), ex_i 7 7 2 false csX7_summed Q G (.invokevirtual 223) pc L (a1 :: a0 :: r) M k n = (e_rm r ∧ e_rc M 7 [a0, a1] ∧ sp_X7_take [a0, a1] M k n (fun v M' k' n' => G (pc + 3) L (v.toList ++ r) M' k' n'))) ∧ (∀ (Q : QT) (G : GT) (pc : Nat) (L : LV) (a0 a1 a2 a3 : Value) (r : List Value) (M : HM) (k n : Nat), ex_i 7 7 2 false csX7_summed Q G (.invokevirtual 226) pc L (a3 :: a2 :: a1 :: a0 :: r) M k n = (e_rm r ∧ e_rc M 7 [a0, a1, a2, a3] ∧ sp_X7_isIn [a0, a1, a2, a3] M k n (fun v M' k' n' => G (pc + 3) L (v.toList ++ r) M' k' n'))) := ⟨(fun _ _ _ _ _ _ _ _ _ _ => xv0_2 rfl), (fun _ _ _ _ _ _ _ _ _ _ _ _ => xv0_4 rfl)⟩
def sp_X7_summed : SP := fun as M k n Q => match as with
  | [.ref m, .int i, .int a, .int b] => ∃ O A s S, MS A M m ∧ GO O A m ∧ s < 8 ∧ MSer A M s S ∧ i = nI s ∧ ∀ U, MC O A m [251, 252, 253] M U → Q (some (.long (askM S a b q0).2.1)) U k n
  | _ => False
theorem okX7_summed : OkX7_summed sp_X7_summed := by
  refine inX7_summed csoX7_summed ?_
  intro as M k n Q hsp
  unfold sp_X7_summed at hsp
  split at hsp
  rotate_left
  · exact hsp.elim
  rename_i m i a b
  obtain ⟨O, A, s, S, hM, hO, hs, hS, rfl, hq⟩ := hsp
  have sc : (nI s).toNatClampNeg = s := nI_clamp (by omega)
  have sv : vp_in (nI s) 8 := vp_in_nI hs (by decide)
  have h0 := hM.1
  refine ⟨0, 0, Nat.zero_le _, Nat.zero_le _, Nat.le_of_ble_eq_true rfl, fun G hG => ?_⟩
  refine e_g2 hG [(5, [0, 1, 2, 3])] 60 ?_
  simp only [e_wp_s, Option.getD_some, Option.isSome_some, Option.isSome_none, xis0, xis1, xis2, xis3, xis4, e_ks, lk_k, lk_c, List.lookup_nil, gt_c, vi_i, k1_n, k1_c, k2_n, k2_c, ar_n, ar_c, pk_n, pk_c, rm_0, rm_1, rm_2, rm_3, rm_4, rm_5, rc_9, rcs, fvs, rf_s, rf_n, isI_i, isL_l, isR_r, isR_n, isR_q, ct_i, ct_l, ct_r, ct_n, ct_q, tFs, tCs, tKs, tJs, tSs, e_nf, lgs, ↓reduceIte, true_and, and_true, false_and, and_false, or_true, true_or, false_or, or_false, Nat.reduceAdd, Nat.reduceEqDiff, Nat.reduceDiv, Nat.reduceLT, Nat.reduceLeDiff, Nat.zero_add, reduceCtorEq, Bool.false_eq_true, Option.toList_some, Option.toList_none, List.cons_append, List.nil_append, not_true_eq_false, not_false_eq_true, Nat.sub_zero, dsX7_summed, jsX7_summed, xcX7_summed, h0]
  refine ⟨O, A, s, S, hM, hO, hs, hS, rfl, fun U hC hA => ?_⟩
  have hq := hq U hC
  unfold askM at hq
  generalize takA S.2.2.2.2 (mpts (unt S.2.2.2.1)) = T at *
  have hSU := hC.mSp (fun f h1 h2 => by intro hf; simp at hf; omega) (by decide) hS.2.2.2.2
  have s60 := hSU.2.1
  have hMU := hC.ms hM
  have g0 := hMU.1
  obtain ⟨r230, k230, l230⟩ : mR U 230 m = some (A 230) ∧ mK U (A 230) = 9 ∧ mN U (A 230) = 8 := hMU.2 230 rfl
  obtain ⟨r240, k240, l240⟩ : mR U 240 m = some (A 240) ∧ mK U (A 240) = 10 ∧ mN U (A 240) = 560 := hMU.2 240 rfl
  obtain ⟨r251, k251, l251⟩ : mR U 251 m = some (A 251) ∧ mK U (A 251) = 9 ∧ mN U (A 251) = 350 := hMU.2 251 rfl
  obtain ⟨r252, k252, l252⟩ : mR U 252 m = some (A 252) ∧ mK U (A 252) = 10 ∧ mN U (A 252) = 350 := hMU.2 252 rfl
  have v1 := hSU.1
  have l0 : (70 : Int32) * nI s = nI (70 * s) := nI_mul 70 s
  generalize hsp : S.2.2.1 = sp at *
  have hAc := hA.1
  have hAl := hA.2.1
  have pts : ∀ d k, k + d = T.length → G 66 [(0, .ref m), (2, .int a), (3, .int b), (4, .long (qfold ptQ (qfold (spQ a b) q0 sp) ((T.take k).filter (wn a b))).2.1), (6, .int (nI k))] [] U 0 0 := by
    intro d
    induction d with
    | zero =>
      intro k hk
      have e1 : ¬ nI k < nI T.length := nI_nlt (by omega) (by omega)
      refine e_g2 hG [] 60 ?_
      simp only [e_wp_s, Option.getD_some, Option.isSome_some, Option.isSome_none, xis0, xis1, xis2, xis3, xis4, e_ks, lk_k, lk_c, List.lookup_nil, gt_c, vi_i, k1_n, k1_c, k2_n, k2_c, ar_n, ar_c, pk_n, pk_c, rm_0, rm_1, rm_2, rm_3, rm_4, rm_5, rc_9, rcs, fvs, rf_s, rf_n, isI_i, isL_l, isR_r, isR_n, isR_q, ct_i, ct_l, ct_r, ct_n, ct_q, tFs, tCs, tKs, tJs, tSs, e_nf, lgs, ↓reduceIte, true_and, and_true, false_and, and_false, or_true, true_or, false_or, or_false, Nat.reduceAdd, Nat.reduceEqDiff, Nat.reduceDiv, Nat.reduceLT, Nat.reduceLeDiff, Nat.zero_add, reduceCtorEq, Bool.false_eq_true, Option.toList_some, Option.toList_none, List.cons_append, List.nil_append, not_true_eq_false, not_false_eq_true, Nat.sub_zero, dsX7_summed, jsX7_summed, xcX7_summed, g0, hAc, e1]
      rw [List.take_of_length_le (by omega)]
      exact hq
    | succ d ih =>
      intro k hk
      have e1 : nI k < nI T.length := nI_lt (by omega) (by omega)
      obtain ⟨p, hp⟩ : ∃ p, T[k]? = some p := ⟨_, List.getElem?_eq_getElem (by omega)⟩
      have hp2 := rdf_at hA.2.2 hp
      rw [Nat.zero_add] at hp2
      have t1 : aI U (A 251) k = p.1 := by rw [← hp2]
      have t2 : aL U (A 252) k = p.2 := by rw [← hp2]
      have i1 : (nI k).toNatClampNeg = k := nI_clamp (by omega)
      have i2 : vp_in (nI k) 350 := vp_in_nI (by omega) (by decide)
      have ih2 := ih (k + 1) (by omega)
      rw [fil_take hp] at ih2
      by_cases c1 : p.1 < a
      · rw [if_neg (by unfold wn; simp [c1])] at ih2
        refine e_g2 hG [(66, [0, 2, 3, 4, 6])] 60 ?_
        simp only [e_wp_s, Option.getD_some, Option.isSome_some, Option.isSome_none, xis0, xis1, xis2, xis3, xis4, e_ks, lk_k, lk_c, List.lookup_nil, gt_c, vi_i, k1_n, k1_c, k2_n, k2_c, ar_n, ar_c, pk_n, pk_c, rm_0, rm_1, rm_2, rm_3, rm_4, rm_5, rc_9, rcs, fvs, rf_s, rf_n, isI_i, isL_l, isR_r, isR_n, isR_q, ct_i, ct_l, ct_r, ct_n, ct_q, tFs, tCs, tKs, tJs, tSs, e_nf, lgs, ↓reduceIte, true_and, and_true, false_and, and_false, or_true, true_or, false_or, or_false, Nat.reduceAdd, Nat.reduceEqDiff, Nat.reduceDiv, Nat.reduceLT, Nat.reduceLeDiff, Nat.zero_add, reduceCtorEq, Bool.false_eq_true, Option.toList_some, Option.toList_none, List.cons_append, List.nil_append, not_true_eq_false, not_false_eq_true, Nat.sub_zero, dsX7_summed, jsX7_summed, xcX7_summed, g0, r251, k251, l251, hAc, e1, i1, i2, t1, c1, nI_1]
        rw [Int64.add_zero]
        exact ih2
      · by_cases c2 : p.1 < b
        · rw [if_pos (by unfold wn; simp [c2, Int32.not_lt.mp c1])] at ih2
          have e3 : (qadd (qfold ptQ (qfold (spQ a b) q0 sp) ((T.take k).filter (wn a b))) (ptQ p)).2.1 = (qfold ptQ (qfold (spQ a b) q0 sp) ((T.take k).filter (wn a b))).2.1 + p.2 := rfl
          rw [e3] at ih2
          refine e_g2 hG [(66, [0, 2, 3, 4, 6])] 60 ?_
          simp only [e_wp_s, Option.getD_some, Option.isSome_some, Option.isSome_none, xis0, xis1, xis2, xis3, xis4, e_ks, lk_k, lk_c, List.lookup_nil, gt_c, vi_i, k1_n, k1_c, k2_n, k2_c, ar_n, ar_c, pk_n, pk_c, rm_0, rm_1, rm_2, rm_3, rm_4, rm_5, rc_9, rcs, fvs, rf_s, rf_n, isI_i, isL_l, isR_r, isR_n, isR_q, ct_i, ct_l, ct_r, ct_n, ct_q, tFs, tCs, tKs, tJs, tSs, e_nf, lgs, ↓reduceIte, true_and, and_true, false_and, and_false, or_true, true_or, false_or, or_false, Nat.reduceAdd, Nat.reduceEqDiff, Nat.reduceDiv, Nat.reduceLT, Nat.reduceLeDiff, Nat.zero_add, reduceCtorEq, Bool.false_eq_true, Option.toList_some, Option.toList_none, List.cons_append, List.nil_append, not_true_eq_false, not_false_eq_true, Nat.sub_zero, dsX7_summed, jsX7_summed, xcX7_summed, g0, r251, k251, l251, r252, k252, l252, hAc, e1, i1, i2, t1, t2, c1, c2, nI_1]
          exact ih2
        · rw [if_neg (by unfold wn; simp [c2])] at ih2
          refine e_g2 hG [(66, [0, 2, 3, 4, 6])] 60 ?_
          simp only [e_wp_s, Option.getD_some, Option.isSome_some, Option.isSome_none, xis0, xis1, xis2, xis3, xis4, e_ks, lk_k, lk_c, List.lookup_nil, gt_c, vi_i, k1_n, k1_c, k2_n, k2_c, ar_n, ar_c, pk_n, pk_c, rm_0, rm_1, rm_2, rm_3, rm_4, rm_5, rc_9, rcs, fvs, rf_s, rf_n, isI_i, isL_l, isR_r, isR_n, isR_q, ct_i, ct_l, ct_r, ct_n, ct_q, tFs, tCs, tKs, tJs, tSs, e_nf, lgs, ↓reduceIte, true_and, and_true, false_and, and_false, or_true, true_or, false_or, or_false, Nat.reduceAdd, Nat.reduceEqDiff, Nat.reduceDiv, Nat.reduceLT, Nat.reduceLeDiff, Nat.zero_add, reduceCtorEq, Bool.false_eq_true, Option.toList_some, Option.toList_none, List.cons_append, List.nil_append, not_true_eq_false, not_false_eq_true, Nat.sub_zero, dsX7_summed, jsX7_summed, xcX7_summed, g0, r251, k251, l251, hAc, e1, i1, i2, t1, c1, c2, nI_1]
          rw [Int64.add_zero]
          exact ih2
  have spl : ∀ d k, k + d = sp.length → G 14 [(0, .ref m), (1, .int (nI s)), (2, .int a), (3, .int b), (4, .long (qfold (spQ a b) q0 (sp.take k)).2.1), (6, .int (nI (70 * s + k)))] [] U 0 0 := by
    intro d
    induction d with
    | zero =>
      intro k hk
      have e1 : ¬ nI (70 * s + k) < nI (70 * s + sp.length) := nI_nlt (by omega) (by omega)
      refine e_g2 hG [(66, [0, 2, 3, 4, 6])] 60 ?_
      simp only [e_wp_s, Option.getD_some, Option.isSome_some, Option.isSome_none, xis0, xis1, xis2, xis3, xis4, e_ks, lk_k, lk_c, List.lookup_nil, gt_c, vi_i, k1_n, k1_c, k2_n, k2_c, ar_n, ar_c, pk_n, pk_c, rm_0, rm_1, rm_2, rm_3, rm_4, rm_5, rc_9, rcs, fvs, rf_s, rf_n, isI_i, isL_l, isR_r, isR_n, isR_q, ct_i, ct_l, ct_r, ct_n, ct_q, tFs, tCs, tKs, tJs, tSs, e_nf, lgs, ↓reduceIte, true_and, and_true, false_and, and_false, or_true, true_or, false_or, or_false, Nat.reduceAdd, Nat.reduceEqDiff, Nat.reduceDiv, Nat.reduceLT, Nat.reduceLeDiff, Nat.zero_add, reduceCtorEq, Bool.false_eq_true, Option.toList_some, Option.toList_none, List.cons_append, List.nil_append, not_true_eq_false, not_false_eq_true, Nat.sub_zero, dsX7_summed, jsX7_summed, xcX7_summed, g0, r230, k230, l230, sc, sv, v1, l70, e1]
      rw [List.take_of_length_le (by omega)]
      exact pts T.length 0 (by omega)
    | succ d ih =>
      intro k hk
      have e1 : nI (70 * s + k) < nI (70 * s + sp.length) := nI_lt (by omega) (by omega)
      obtain ⟨x, hx⟩ : ∃ x, sp[k]? = some x := ⟨_, List.getElem?_eq_getElem (by omega)⟩
      obtain ⟨w1, w2, w3⟩ := mSp_at hSU hx
      have y1 : aL U (A 240) (70 * s + k) = x.2.2.2.1 := by rw [← w1]; rfl
      have i1 : (nI (70 * s + k)).toNatClampNeg = 70 * s + k := nI_clamp (by omega)
      have i2 : vp_in (nI (70 * s + k)) 560 := vp_in_nI (by omega) (by decide)
      have ih2 := ih (k + 1) (by omega)
      rw [take_1 hx, qfold_snoc] at ih2
      refine e_g2 hG [(40, [0, 1, 2, 3, 6])] 60 ?_
      simp only [e_wp_s, Option.getD_some, Option.isSome_some, Option.isSome_none, xis0, xis1, xis2, xis3, xis4, e_ks, lk_k, lk_c, List.lookup_nil, gt_c, vi_i, k1_n, k1_c, k2_n, k2_c, ar_n, ar_c, pk_n, pk_c, rm_0, rm_1, rm_2, rm_3, rm_4, rm_5, rc_9, rcs, fvs, rf_s, rf_n, isI_i, isL_l, isR_r, isR_n, isR_q, ct_i, ct_l, ct_r, ct_n, ct_q, tFs, tCs, tKs, tJs, tSs, e_nf, lgs, ↓reduceIte, true_and, and_true, false_and, and_false, or_true, true_or, false_or, or_false, Nat.reduceAdd, Nat.reduceEqDiff, Nat.reduceDiv, Nat.reduceLT, Nat.reduceLeDiff, Nat.zero_add, reduceCtorEq, Bool.false_eq_true, Option.toList_some, Option.toList_none, List.cons_append, List.nil_append, not_true_eq_false, not_false_eq_true, Nat.sub_zero, dsX7_summed, jsX7_summed, xcX7_summed, g0, r230, k230, l230, sc, sv, v1, l70, e1]
      refine ⟨A, 70 * s + k, hMU, rfl, by omega, ?_⟩
      rw [w1]
      by_cases c1 : inSp a b x = true
      · have e3 : (qadd (qfold (spQ a b) q0 (sp.take k)) (spQ a b x)).2.1 = (qfold (spQ a b) q0 (sp.take k)).2.1 + x.2.2.2.1 := by
          unfold spQ; rw [if_pos c1]; rfl
        rw [e3] at ih2
        rw [if_pos c1]
        refine e_g2 hG [(14, [0, 1, 2, 3, 4, 6])] 60 ?_
        simp only [e_wp_s, Option.getD_some, Option.isSome_some, Option.isSome_none, xis0, xis1, xis2, xis3, xis4, e_ks, lk_k, lk_c, List.lookup_nil, gt_c, vi_i, k1_n, k1_c, k2_n, k2_c, ar_n, ar_c, pk_n, pk_c, rm_0, rm_1, rm_2, rm_3, rm_4, rm_5, rc_9, rcs, fvs, rf_s, rf_n, isI_i, isL_l, isR_r, isR_n, isR_q, ct_i, ct_l, ct_r, ct_n, ct_q, tFs, tCs, tKs, tJs, tSs, e_nf, lgs, ↓reduceIte, true_and, and_true, false_and, and_false, or_true, true_or, false_or, or_false, Nat.reduceAdd, Nat.reduceEqDiff, Nat.reduceDiv, Nat.reduceLT, Nat.reduceLeDiff, Nat.zero_add, reduceCtorEq, Bool.false_eq_true, Option.toList_some, Option.toList_none, List.cons_append, List.nil_append, not_true_eq_false, not_false_eq_true, Nat.sub_zero, dsX7_summed, jsX7_summed, xcX7_summed, g0, r240, k240, l240, i10, i1, i2, y1, nI_1]
        exact ih2
      · have e3 : spQ a b x = q0 := by unfold spQ; rw [if_neg c1]
        rw [e3, qadd_0] at ih2
        rw [if_neg c1]
        refine e_g2 hG [(14, [0, 1, 2, 3, 4, 6])] 60 ?_
        simp only [e_wp_s, Option.getD_some, Option.isSome_some, Option.isSome_none, xis0, xis1, xis2, xis3, xis4, e_ks, lk_k, lk_c, List.lookup_nil, gt_c, vi_i, k1_n, k1_c, k2_n, k2_c, ar_n, ar_c, pk_n, pk_c, rm_0, rm_1, rm_2, rm_3, rm_4, rm_5, rc_9, rcs, fvs, rf_s, rf_n, isI_i, isL_l, isR_r, isR_n, isR_q, ct_i, ct_l, ct_r, ct_n, ct_q, tFs, tCs, tKs, tJs, tSs, e_nf, lgs, ↓reduceIte, true_and, and_true, false_and, and_false, or_true, true_or, false_or, or_false, Nat.reduceAdd, Nat.reduceEqDiff, Nat.reduceDiv, Nat.reduceLT, Nat.reduceLeDiff, Nat.zero_add, reduceCtorEq, Bool.false_eq_true, Option.toList_some, Option.toList_none, List.cons_append, List.nil_append, not_true_eq_false, not_false_eq_true, Nat.sub_zero, dsX7_summed, jsX7_summed, xcX7_summed, i10, nI_1]
        rw [Int64.add_zero]
        exact ih2
  refine e_g2 hG [(14, [0, 1, 2, 3, 4, 6])] 60 ?_
  simp only [e_wp_s, Option.getD_some, Option.isSome_some, Option.isSome_none, xis0, xis1, xis2, xis3, xis4, e_ks, lk_k, lk_c, List.lookup_nil, gt_c, vi_i, k1_n, k1_c, k2_n, k2_c, ar_n, ar_c, pk_n, pk_c, rm_0, rm_1, rm_2, rm_3, rm_4, rm_5, rc_9, rcs, fvs, rf_s, rf_n, isI_i, isL_l, isR_r, isR_n, isR_q, ct_i, ct_l, ct_r, ct_n, ct_q, tFs, tCs, tKs, tJs, tSs, e_nf, lgs, ↓reduceIte, true_and, and_true, false_and, and_false, or_true, true_or, false_or, or_false, Nat.reduceAdd, Nat.reduceEqDiff, Nat.reduceDiv, Nat.reduceLT, Nat.reduceLeDiff, Nat.zero_add, reduceCtorEq, Bool.false_eq_true, Option.toList_some, Option.toList_none, List.cons_append, List.nil_append, not_true_eq_false, not_false_eq_true, Nat.sub_zero, dsX7_summed, jsX7_summed, xcX7_summed, l0]
  exact spl sp.length 0 (by omega)
