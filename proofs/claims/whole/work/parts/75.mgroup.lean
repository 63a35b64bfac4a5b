/-! the reference: least, group -/
def bst (o : Option Int64) : Int64 := o.getD NOv
def qsel (ms : Int32) (u : QV) : Option Int64 := if ms = 0 then u.2.2.1 else u.2.2.2
theorem bst_add {ms : Int32} {u w : QV} {v : Int64} (hv : v ≠ NOv) (hu : ∀ y, qsel ms u = some y → y ≠ NOv) (hw : qsel ms w = some v) : (if bst (qsel ms u) = NOv ∨ (if ms = 0 then v < bst (qsel ms u) else bst (qsel ms u) < v) then v else bst (qsel ms u)) = bst (qsel ms (qadd u w)) ∧ ∀ y, qsel ms (qadd u w) = some y → y ≠ NOv := by
  unfold qsel at *
  by_cases c : ms = 0
  · simp only [c, if_true] at *
    show (if bst u.2.2.1 = NOv ∨ v < bst u.2.2.1 then v else bst u.2.2.1) = bst (omn u.2.2.1 w.2.2.1) ∧ ∀ y, omn u.2.2.1 w.2.2.1 = some y → y ≠ NOv
    rw [hw]
    cases hx : u.2.2.1 with
    | none => exact ⟨by rw [if_pos (Or.inl (show bst none = NOv from rfl))]; rfl, fun y hy => by cases hy; exact hv⟩
    | some y =>
      have hy := hu y hx
      show (if y = NOv ∨ v < y then v else y) = (if v < y then v else y) ∧ ∀ z, some (if v < y then v else y) = some z → z ≠ NOv
      by_cases d : v < y
      · rw [if_pos (Or.inr d), if_pos d]; exact ⟨rfl, fun z hz => by cases hz; exact hv⟩
      · rw [if_neg (fun q => q.elim hy d), if_neg d]; exact ⟨rfl, fun z hz => by cases hz; exact hy⟩
  · simp only [c, if_false] at *
    show (if bst u.2.2.2 = NOv ∨ bst u.2.2.2 < v then v else bst u.2.2.2) = bst (omx u.2.2.2 w.2.2.2) ∧ ∀ y, omx u.2.2.2 w.2.2.2 = some y → y ≠ NOv
    rw [hw]
    cases hx : u.2.2.2 with
    | none => exact ⟨by rw [if_pos (Or.inl (show bst none = NOv from rfl))]; rfl, fun y hy => by cases hy; exact hv⟩
    | some y =>
      have hy := hu y hx
      show (if y = NOv ∨ y < v then v else y) = (if v < y then y else v) ∧ ∀ z, some (if v < y then y else v) = some z → z ≠ NOv
      have e := mx_e v y
      by_cases d : y < v
      · rw [if_pos d] at e
        rw [if_pos (Or.inr d), ← e]; exact ⟨rfl, fun z hz => by cases hz; exact hv⟩
      · rw [if_neg d] at e
        rw [if_neg (fun q => q.elim hy d), ← e]; exact ⟨rfl, fun z hz => by cases hz; exact hy⟩
def nvS (S : SER) : Prop := (∀ x, x ∈ S.2.2.1 → x.2.2.2.2.1 ≠ NOv ∧ x.2.2.2.2.2.1 ≠ NOv) ∧ ∀ p, p ∈ tkl S → p.2 ≠ NOv
def mLeast (L : List SER) (z : Nat × Nat × Nat) (i a b ms : Int32) : Int64 × Nat × Nat × Nat := match ser L i with
  | none => (NOv, z)
  | some S => if ¬ a < 0 ∧ a < b then (((if ms = 0 then (askM S a b q0).2.2.1 else (askM S a b q0).2.2.2).getD NOv), mLk 0 S a b) else (NOv, z)
def csX7_least : CS := (cs_c 0 103 2 7 sp_X7_isSeries (cs_c 0 229 3 7 sp_X7_isWindow (cs_c 0 232 1 7 sp_X7_clear (cs_c 0 235 5 7 sp_X7_look (cs_c 0 223 2 7 sp_X7_take (cs_c 0 226 4 7 sp_X7_isIn (cs_c 0 246 4 7 sp_X7_better cs_0)))))))
theorem csoX7_least : ∀ op x na cl sp, csX7_least op x = some (na, cl, sp) → CallOK 7 5 120 op x na cl sp := (cs_c_ok (caX7_least_103 okX7_isSeries) (cs_c_ok (caX7_least_229 okX7_isWindow) (cs_c_ok (caX7_least_232 okX7_clear) (cs_c_ok (caX7_least_235 okX7_look) (cs_c_ok (caX7_least_223 okX7_take) (cs_c_ok (caX7_least_226 okX7_isIn) (cs_c_ok (caX7_least_246 okX7_better) cs_0_ok)))))))
theorem xcX7_least : (∀ (Q : QT) (G : GT) (pc : Nat) (L : LV) (a0 a1 : Value) (r : List Value) (M : HM) (k n : Nat), ex_i 7 8 2 false csX7_least Q G (.invokevirtual 103) pc L (a1 :: a0 :: r) M k n = (e_rm r ∧ e_rc M 7 [a0, a1] ∧ sp_X7_isSeries [a0, a1] M k n (fun v M' k' n' => G (pc + 3) L (v.toList ++ r) M' k' n'))) ∧ (∀ (Q : QT) (G : GT) (pc : Nat) (L : LV) (a0 a1 a2 : Value) (r : List Value) (M : HM) (k n : Nat), ex_i 7 8 2 false csX7_least Q G (.invokevirtual 229) pc L (a2 :: a1 :: a0 :: r) M k n = (e_rm r ∧ e_rc M 7 [a0, a1, a2] ∧ sp_X7_isWindow [a0, a1, a2] M k n (fun v M' k' n' => G (pc + 3) L (v.toList ++ r) M' k' n'))) ∧ (∀ (Q : QT) (G : GT) (pc : Nat) (L : LV) (a0 : Value) (r : List Value) (M : HM) (k n : Nat), ex_i 7 8 2 false csX7_least Q G (.invokevirtual 232) pc L (a0 :: r) M k n = (e_rm r ∧ e_rc M 7 [a0] ∧ sp_X7_clear [a0] M k n (fun v M' k' n' => G (pc + 3) L (v.toList ++ r) M' k' n'))) ∧ (∀ (Q : QT) (G : GT) (pc : Nat) (L : LV) (a0 a1 a2 a3 a4 : Value) (r : List Value) (M : HM) (k n : Nat), ex_i 7 8 2 false csX7_least Q G (.invokevirtual 235) pc L (a4 :: a3 :: a2 :: a1 :: a0 :: r) M k n = (e_rm r ∧ e_rc M 7 [a0, a1, a2, a3, a4] ∧ sp_X7_look [a0, a1, a2, a3, a4] M k n (fun v M' k' n' => G (pc + 3) L (v.toList ++ r) M' k' n'))) ∧ (∀ (Q : QT) (G : GT) (pc : Nat) (L : LV) (a0 a1 : Value) (r : List Value) (M : HM) (k n : Nat), ex_i 7 8 2 false csX7_least Q G (.invokevirtual 223) pc L (a1 :: a0 :: r) M k n = (e_rm r ∧ e_rc M 7 [a0, a1] ∧ sp_X7_take [a0, a1] M k n (fun v M' k' n' => G (pc + 3) L (v.toList ++ r) M' k' n'))) ∧ (∀ (Q : QT) (G : GT) (pc : Nat) (L : LV) (a0 a1 a2 a3 : Value) (r : List Value) (M : HM) (k n : Nat), ex_i 7 8 2 false csX7_least Q G (.invokevirtual 226) pc L (a3 :: a2 :: a1 :: a0 :: r) M k n = (e_rm r ∧ e_rc M 7 [a0, a1, a2, a3] ∧ sp_X7_isIn [a0, a1, a2, a3] M k n (fun v M' k' n' => G (pc + 3) L (v.toList ++ r) M' k' n'))) ∧ (∀ (Q : QT) (G : GT) (pc : Nat) (L : LV) (a0 a1 a2 a3 : Value) (r : List Value) (M : HM) (k n : Nat), ex_i 7 8 2 false csX7_least Q G (.invokevirtual 246) pc L (a3 :: a2 :: a1 :: a0 :: r) M k n = (e_rm r ∧ e_rc M 7 [a0, a1, a2, a3] ∧ sp_X7_better [a0, a1, a2, a3] M k n (fun v M' k' n' => G (pc + 3) L (v.toList ++ r) M' k' n'))) := ⟨(fun _ _ _ _ _ _ _ _ _ _ => xv0_2 rfl), (fun _ _ _ _ _ _ _ _ _ _ _ => xv0_3 rfl), (fun _ _ _ _ _ _ _ _ _ => xv0_1 rfl), (fun _ _ _ _ _ _ _ _ _ _ _ _ _ => xv0_5 rfl), (fun _ _ _ _ _ _ _ _ _ _ => xv0_2 rfl), (fun _ _ _ _ _ _ _ _ _ _ _ _ => xv0_4 rfl), (fun _ _ _ _ _ _ _ _ _ _ _ _ => xv0_4 rfl)⟩
def sp_X7_least : SP := fun as M k n Q => match as with
  | [.ref m, .int i, .int a, .int b, .int ms] => ∃ A O L z, MRp A O M m L z ∧ wft L ∧ (∀ S, S ∈ L → nvS S) ∧ ∀ U, MRp A O U m L (mLeast L z i a b ms).2 → Fr (Ss m) O O M U → Q (some (.long (mLeast L z i a b ms).1)) U k n
  | _ => False
theorem okX7_least : OkX7_least sp_X7_least := by
  refine inX7_least csoX7_least ?_
  intro as M k n Q hsp
  unfold sp_X7_least at hsp
  split at hsp
  rotate_left
  · exact hsp.elim
  rename_i m i a b ms
  obtain ⟨A, O, L, z, hR, hwt, hpr, hq⟩ := hsp
  have hM := hR.1
  have hO := hR.2.1
  have h0 := hM.1
  refine ⟨0, 0, Nat.zero_le _, Nat.zero_le _, Nat.le_of_ble_eq_true rfl, fun G hG => ?_⟩
  unfold mLeast at hq
  rcases hR.at_ i with ⟨h1, h2⟩ | ⟨s, S, h1, rfl, h3, h4, h5, h6⟩
  · rw [h1] at hq
    refine e_g2 hG [] 40 ?_
    simp only [e_wp_s, Option.getD_some, Option.isSome_some, Option.isSome_none, xis0, xis1, xis2, xis3, xis4, e_ks, lk_k, lk_c, List.lookup_nil, gt_c, vi_i, k1_n, k1_c, k2_n, k2_c, ar_n, ar_c, pk_n, pk_c, rm_0, rm_1, rm_2, rm_3, rm_4, rm_5, rc_9, rcs, fvs, rf_s, rf_n, isI_i, isL_l, isR_r, isR_n, isR_q, ct_i, ct_l, ct_r, ct_n, ct_q, tFs, tCs, tKs, tJs, tSs, e_nf, lgs, ↓reduceIte, true_and, and_true, false_and, and_false, or_true, true_or, false_or, or_false, Nat.reduceAdd, Nat.reduceEqDiff, Nat.reduceDiv, Nat.reduceLT, Nat.reduceLeDiff, Nat.zero_add, reduceCtorEq, Bool.false_eq_true, Option.toList_some, Option.toList_none, List.cons_append, List.nil_append, not_true_eq_false, not_false_eq_true, Nat.sub_zero, dsX7_least, jsX7_least, xcX7_least, h0, h2, ↓sp_X7_isSeries]
    exact hq M hR Fr.rf
  · simp only [h1] at hq
    have sc : (nI s).toNatClampNeg = s := nI_clamp (by omega)
    have sv : vp_in (nI s) 8 := vp_in_nI h5 (by decide)
    have htm := hwt S (List.mem_of_getElem? h3)
    by_cases c1 : ¬ a < 0 ∧ a < b
    · rw [if_pos c1] at hq
      obtain ⟨k1, k2, k3, k4⟩ := clr_C (M := M) hO
      refine e_g2 hG [(25, [0, 1, 2, 3, 4])] 60 ?_
      simp only [e_wp_s, Option.getD_some, Option.isSome_some, Option.isSome_none, xis0, xis1, xis2, xis3, xis4, e_ks, lk_k, lk_c, List.lookup_nil, gt_c, vi_i, k1_n, k1_c, k2_n, k2_c, ar_n, ar_c, pk_n, pk_c, rm_0, rm_1, rm_2, rm_3, rm_4, rm_5, rc_9, rcs, fvs, rf_s, rf_n, isI_i, isL_l, isR_r, isR_n, isR_q, ct_i, ct_l, ct_r, ct_n, ct_q, tFs, tCs, tKs, tJs, tSs, e_nf, lgs, ↓reduceIte, true_and, and_true, false_and, and_false, or_true, true_or, false_or, or_false, Nat.reduceAdd, Nat.reduceEqDiff, Nat.reduceDiv, Nat.reduceLT, Nat.reduceLeDiff, Nat.zero_add, reduceCtorEq, Bool.false_eq_true, Option.toList_some, Option.toList_none, List.cons_append, List.nil_append, not_true_eq_false, not_false_eq_true, Nat.sub_zero, dsX7_least, jsX7_least, xcX7_least, h0, h6, i10, c1, ↓sp_X7_isSeries, ↓sp_X7_isWindow, ↓sp_X7_clear]
      generalize clrM M m = B at *
      have hMB := k1.ms hM
      have b0 := hMB.1
      have hSB := h4.q k1.l6
      refine e_g2 hG [(33, [0, 1, 2, 3, 4])] 60 ?_
      simp only [e_wp_s, Option.getD_some, Option.isSome_some, Option.isSome_none, xis0, xis1, xis2, xis3, xis4, e_ks, lk_k, lk_c, List.lookup_nil, gt_c, vi_i, k1_n, k1_c, k2_n, k2_c, ar_n, ar_c, pk_n, pk_c, rm_0, rm_1, rm_2, rm_3, rm_4, rm_5, rc_9, rcs, fvs, rf_s, rf_n, isI_i, isL_l, isR_r, isR_n, isR_q, ct_i, ct_l, ct_r, ct_n, ct_q, tFs, tCs, tKs, tJs, tSs, e_nf, lgs, ↓reduceIte, true_and, and_true, false_and, and_false, or_true, true_or, false_or, or_false, Nat.reduceAdd, Nat.reduceEqDiff, Nat.reduceDiv, Nat.reduceLT, Nat.reduceLeDiff, Nat.zero_add, reduceCtorEq, Bool.false_eq_true, Option.toList_some, Option.toList_none, List.cons_append, List.nil_append, not_true_eq_false, not_false_eq_true, Nat.sub_zero, dsX7_least, jsX7_least, xcX7_least, b0]
      refine ⟨O, A, s, S, (0, 0, 0), 0, hMB, hO, h5, hSB, htm, rfl, rfl, by decide, k2, k3, k4, fun C hC c48 c49 c50 => ?_⟩
      have hC1 := k1.tr hC
      have hMC := hC1.ms hM
      have d0 := hMC.1
      have hSC := h4.q hC1.l6
      simp only [Nat.zero_add] at c48 c49 c50
      refine e_g2 hG [(38, [0, 1, 2, 3, 4])] 60 ?_
      simp only [e_wp_s, Option.getD_some, Option.isSome_some, Option.isSome_none, xis0, xis1, xis2, xis3, xis4, e_ks, lk_k, lk_c, List.lookup_nil, gt_c, vi_i, k1_n, k1_c, k2_n, k2_c, ar_n, ar_c, pk_n, pk_c, rm_0, rm_1, rm_2, rm_3, rm_4, rm_5, rc_9, rcs, fvs, rf_s, rf_n, isI_i, isL_l, isR_r, isR_n, isR_q, ct_i, ct_l, ct_r, ct_n, ct_q, tFs, tCs, tKs, tJs, tSs, e_nf, lgs, ↓reduceIte, true_and, and_true, false_and, and_false, or_true, true_or, false_or, or_false, Nat.reduceAdd, Nat.reduceEqDiff, Nat.reduceDiv, Nat.reduceLT, Nat.reduceLeDiff, Nat.zero_add, reduceCtorEq, Bool.false_eq_true, Option.toList_some, Option.toList_none, List.cons_append, List.nil_append, not_true_eq_false, not_false_eq_true, Nat.sub_zero, dsX7_least, jsX7_least, xcX7_least, d0]
      refine ⟨O, A, s, S, hMC, hO, h5, hSC, rfl, fun U hU hA => ?_⟩
      have hRU : MRp A O U m L (mLk 0 S a b) := hR.zst (hC1.l6.tr hU.a6) (by rw [hU.2.2.2.2.2 248 (by decide)]; exact c48) (by rw [hU.2.2.2.2.2 249 (by decide)]; exact c49) (by rw [hU.2.2.2.2.2 250 (by decide)]; exact c50)
      have hFU : Fr (Ss m) O O M U := hC1.2.2.2.1.tr hU.2.2.2.1
      have hq := hq U hRU hFU
      have hMU := hU.ms hMC
      have g0 := hMU.1
      obtain ⟨r251, k251, l251⟩ : mR U 251 m = some (A 251) ∧ mK U (A 251) = 9 ∧ mN U (A 251) = 350 := hMU.2 251 rfl
      obtain ⟨r252, k252, l252⟩ : mR U 252 m = some (A 252) ∧ mK U (A 252) = 10 ∧ mN U (A 252) = 350 := hMU.2 252 rfl
      have hAc := hA.1
      have hAl := hA.2.1
      have htk : tkl S = takA S.2.2.2.2 (mpts (unt S.2.2.2.1)) := rfl
      rw [← htk] at hA hAc hAl
      have atp : ∀ k p, (tkl S)[k]? = some p → aI U (A 251) k = p.1 ∧ aL U (A 252) k = p.2 ∧ k < (tkl S).length := fun k p hp => by
        have hp2 := rdf_at hA.2.2 hp
        rw [Nat.zero_add] at hp2
        exact ⟨by rw [← hp2], by rw [← hp2], (List.getElem?_eq_some_iff.mp hp).1⟩
      have hnv := hpr S (List.mem_of_getElem? h3)
      unfold nvS at hnv
      have hSU := (hSC.q hU.a6).2.2.2.2
      have s60 := hSU.2.1
      obtain ⟨r230, k230, l230⟩ : mR U 230 m = some (A 230) ∧ mK U (A 230) = 9 ∧ mN U (A 230) = 8 := hMU.2 230 rfl
      obtain ⟨r241, k241, l241⟩ : mR U 241 m = some (A 241) ∧ mK U (A 241) = 10 ∧ mN U (A 241) = 560 := hMU.2 241 rfl
      obtain ⟨r242, k242, l242⟩ : mR U 242 m = some (A 242) ∧ mK U (A 242) = 10 ∧ mN U (A 242) = 560 := hMU.2 242 rfl
      have v1 := hSU.1
      have l0 : (70 : Int32) * nI s = nI (70 * s) := nI_mul 70 s
      change Q (some (.long (bst (qsel ms (askM S a b q0))))) U k n at hq
      unfold askM at hq
      rw [← htk] at hq
      generalize tkl S = T at *
      generalize S.2.2.1 = sp at *
      have pts : ∀ d j w, j + d = T.length → w = qfold ptQ (qfold (spQ a b) q0 sp) ((T.take j).filter (wn a b)) → (∀ y, qsel ms w = some y → y ≠ NOv) → G 117 [(0, .ref m), (2, .int a), (3, .int b), (4, .int ms), (5, .long (bst (qsel ms w))), (7, .int (nI j))] [] U 0 0 := by
        intro d
        induction d with
        | zero =>
          intro j w hj hw hwn
          have e1 : ¬ nI j < nI T.length := nI_nlt (by omega) (by omega)
          refine e_g2 hG [] 60 ?_
          simp only [e_wp_s, Option.getD_some, Option.isSome_some, Option.isSome_none, xis0, xis1, xis2, xis3, xis4, e_ks, lk_k, lk_c, List.lookup_nil, gt_c, vi_i, k1_n, k1_c, k2_n, k2_c, ar_n, ar_c, pk_n, pk_c, rm_0, rm_1, rm_2, rm_3, rm_4, rm_5, rc_9, rcs, fvs, rf_s, rf_n, isI_i, isL_l, isR_r, isR_n, isR_q, ct_i, ct_l, ct_r, ct_n, ct_q, tFs, tCs, tKs, tJs, tSs, e_nf, lgs, ↓reduceIte, true_and, and_true, false_and, and_false, or_true, true_or, false_or, or_false, Nat.reduceAdd, Nat.reduceEqDiff, Nat.reduceDiv, Nat.reduceLT, Nat.reduceLeDiff, Nat.zero_add, reduceCtorEq, Bool.false_eq_true, Option.toList_some, Option.toList_none, List.cons_append, List.nil_append, not_true_eq_false, not_false_eq_true, Nat.sub_zero, dsX7_least, jsX7_least, xcX7_least, g0, hAc, e1]
          rw [hw, List.take_of_length_le (by omega)]
          exact hq
        | succ d ih =>
          intro j w hj hw hwn
          have e1 : nI j < nI T.length := nI_lt (by omega) (by omega)
          obtain ⟨p, hp⟩ : ∃ p, T[j]? = some p := ⟨_, List.getElem?_eq_getElem (by omega)⟩
          obtain ⟨p1, p2, p3⟩ := atp j p hp
          have i1 : (nI j).toNatClampNeg = j := nI_clamp (by omega)
          have i2 : vp_in (nI j) 350 := vp_in_nI (by omega) (by decide)
          have hft := fil_take (f := wn a b) hp (qfold (spQ a b) q0 sp)
          rw [← hw] at hft
          by_cases d1 : p.1 < a
          · rw [if_neg (by unfold wn; simp [d1])] at hft
            refine e_g2 hG [(117, [0, 2, 3, 4, 5, 7])] 60 ?_
            simp only [e_wp_s, Option.getD_some, Option.isSome_some, Option.isSome_none, xis0, xis1, xis2, xis3, xis4, e_ks, lk_k, lk_c, List.lookup_nil, gt_c, vi_i, k1_n, k1_c, k2_n, k2_c, ar_n, ar_c, pk_n, pk_c, rm_0, rm_1, rm_2, rm_3, rm_4, rm_5, rc_9, rcs, fvs, rf_s, rf_n, isI_i, isL_l, isR_r, isR_n, isR_q, ct_i, ct_l, ct_r, ct_n, ct_q, tFs, tCs, tKs, tJs, tSs, e_nf, lgs, ↓reduceIte, true_and, and_true, false_and, and_false, or_true, true_or, false_or, or_false, Nat.reduceAdd, Nat.reduceEqDiff, Nat.reduceDiv, Nat.reduceLT, Nat.reduceLeDiff, Nat.zero_add, reduceCtorEq, Bool.false_eq_true, Option.toList_some, Option.toList_none, List.cons_append, List.nil_append, not_true_eq_false, not_false_eq_true, Nat.sub_zero, dsX7_least, jsX7_least, xcX7_least, g0, r251, k251, l251, hAc, e1, i1, i2, p1, d1, nI_1]
            exact ih (j + 1) w (by omega) hft.symm hwn
          by_cases d2 : p.1 < b
          · rw [if_pos (by unfold wn; simp [d2, Int32.not_lt.mp d1])] at hft
            obtain ⟨r1, r2⟩ := bst_add (w := ptQ p) (hnv.2 p (List.mem_of_getElem? hp)) hwn (by unfold qsel; split <;> rfl)
            refine e_g2 hG [(117, [0, 2, 3, 4, 5, 7])] 60 ?_
            simp only [e_wp_s, Option.getD_some, Option.isSome_some, Option.isSome_none, xis0, xis1, xis2, xis3, xis4, e_ks, lk_k, lk_c, List.lookup_nil, gt_c, vi_i, k1_n, k1_c, k2_n, k2_c, ar_n, ar_c, pk_n, pk_c, rm_0, rm_1, rm_2, rm_3, rm_4, rm_5, rc_9, rcs, fvs, rf_s, rf_n, isI_i, isL_l, isR_r, isR_n, isR_q, ct_i, ct_l, ct_r, ct_n, ct_q, tFs, tCs, tKs, tJs, tSs, e_nf, lgs, ↓reduceIte, true_and, and_true, false_and, and_false, or_true, true_or, false_or, or_false, Nat.reduceAdd, Nat.reduceEqDiff, Nat.reduceDiv, Nat.reduceLT, Nat.reduceLeDiff, Nat.zero_add, reduceCtorEq, Bool.false_eq_true, Option.toList_some, Option.toList_none, List.cons_append, List.nil_append, not_true_eq_false, not_false_eq_true, Nat.sub_zero, dsX7_least, jsX7_least, xcX7_least, g0, r251, k251, l251, r252, k252, l252, hAc, e1, i1, i2, p1, p2, d1, d2, nI_1, ↓sp_X7_better]
            rw [r1]
            exact ih (j + 1) _ (by omega) hft.symm r2
          · rw [if_neg (by unfold wn; simp [d2])] at hft
            refine e_g2 hG [(117, [0, 2, 3, 4, 5, 7])] 60 ?_
            simp only [e_wp_s, Option.getD_some, Option.isSome_some, Option.isSome_none, xis0, xis1, xis2, xis3, xis4, e_ks, lk_k, lk_c, List.lookup_nil, gt_c, vi_i, k1_n, k1_c, k2_n, k2_c, ar_n, ar_c, pk_n, pk_c, rm_0, rm_1, rm_2, rm_3, rm_4, rm_5, rc_9, rcs, fvs, rf_s, rf_n, isI_i, isL_l, isR_r, isR_n, isR_q, ct_i, ct_l, ct_r, ct_n, ct_q, tFs, tCs, tKs, tJs, tSs, e_nf, lgs, ↓reduceIte, true_and, and_true, false_and, and_false, or_true, true_or, false_or, or_false, Nat.reduceAdd, Nat.reduceEqDiff, Nat.reduceDiv, Nat.reduceLT, Nat.reduceLeDiff, Nat.zero_add, reduceCtorEq, Bool.false_eq_true, Option.toList_some, Option.toList_none, List.cons_append, List.nil_append, not_true_eq_false, not_false_eq_true, Nat.sub_zero, dsX7_least, jsX7_least, xcX7_least, g0, r251, k251, l251, hAc, e1, i1, i2, p1, d1, d2, nI_1]
            exact ih (j + 1) w (by omega) hft.symm hwn
      have spl : ∀ d j w, j + d = sp.length → w = qfold (spQ a b) q0 (sp.take j) → (∀ y, qsel ms w = some y → y ≠ NOv) → G 49 [(0, .ref m), (1, .int (nI s)), (2, .int a), (3, .int b), (4, .int ms), (5, .long (bst (qsel ms w))), (7, .int (nI (70 * s + j)))] [] U 0 0 := by
        intro d
        induction d with
        | zero =>
          intro j w hj hw hwn
          have e1 : ¬ nI (70 * s + j) < nI (70 * s + sp.length) := nI_nlt (by omega) (by omega)
          rw [List.take_of_length_le (by omega)] at hw
          refine e_g2 hG [(117, [0, 2, 3, 4, 5, 7])] 60 ?_
          simp only [e_wp_s, Option.getD_some, Option.isSome_some, Option.isSome_none, xis0, xis1, xis2, xis3, xis4, e_ks, lk_k, lk_c, List.lookup_nil, gt_c, vi_i, k1_n, k1_c, k2_n, k2_c, ar_n, ar_c, pk_n, pk_c, rm_0, rm_1, rm_2, rm_3, rm_4, rm_5, rc_9, rcs, fvs, rf_s, rf_n, isI_i, isL_l, isR_r, isR_n, isR_q, ct_i, ct_l, ct_r, ct_n, ct_q, tFs, tCs, tKs, tJs, tSs, e_nf, lgs, ↓reduceIte, true_and, and_true, false_and, and_false, or_true, true_or, false_or, or_false, Nat.reduceAdd, Nat.reduceEqDiff, Nat.reduceDiv, Nat.reduceLT, Nat.reduceLeDiff, Nat.zero_add, reduceCtorEq, Bool.false_eq_true, Option.toList_some, Option.toList_none, List.cons_append, List.nil_append, not_true_eq_false, not_false_eq_true, Nat.sub_zero, dsX7_least, jsX7_least, xcX7_least, g0, r230, k230, l230, sc, sv, v1, l70, e1]
          exact pts T.length 0 w (by omega) hw hwn
        | succ d ih =>
          intro j w hj hw hwn
          have e1 : nI (70 * s + j) < nI (70 * s + sp.length) := nI_lt (by omega) (by omega)
          obtain ⟨x, hx⟩ : ∃ x, sp[j]? = some x := ⟨_, List.getElem?_eq_getElem (by omega)⟩
          obtain ⟨w1, w2, w3⟩ := mSp_at hSU hx
          have y1 : aL U (A 241) (70 * s + j) = x.2.2.2.2.1 := by rw [← w1]; rfl
          have y2 : aL U (A 242) (70 * s + j) = x.2.2.2.2.2.1 := by rw [← w1]; rfl
          have i1 : (nI (70 * s + j)).toNatClampNeg = 70 * s + j := nI_clamp (by omega)
          have i2 : vp_in (nI (70 * s + j)) 560 := vp_in_nI (by omega) (by decide)
          have hsn : qfold (spQ a b) q0 (sp.take (j + 1)) = qadd w (spQ a b x) := by rw [take_1 hx, qfold_snoc, ← hw]
          obtain ⟨nv1, nv2⟩ := hnv.1 x (List.mem_of_getElem? hx)
          refine e_g2 hG [(73, [0, 1, 2, 3, 4, 5, 7])] 60 ?_
          simp only [e_wp_s, Option.getD_some, Option.isSome_some, Option.isSome_none, xis0, xis1, xis2, xis3, xis4, e_ks, lk_k, lk_c, List.lookup_nil, gt_c, vi_i, k1_n, k1_c, k2_n, k2_c, ar_n, ar_c, pk_n, pk_c, rm_0, rm_1, rm_2, rm_3, rm_4, rm_5, rc_9, rcs, fvs, rf_s, rf_n, isI_i, isL_l, isR_r, isR_n, isR_q, ct_i, ct_l, ct_r, ct_n, ct_q, tFs, tCs, tKs, tJs, tSs, e_nf, lgs, ↓reduceIte, true_and, and_true, false_and, and_false, or_true, true_or, false_or, or_false, Nat.reduceAdd, Nat.reduceEqDiff, Nat.reduceDiv, Nat.reduceLT, Nat.reduceLeDiff, Nat.zero_add, reduceCtorEq, Bool.false_eq_true, Option.toList_some, Option.toList_none, List.cons_append, List.nil_append, not_true_eq_false, not_false_eq_true, Nat.sub_zero, dsX7_least, jsX7_least, xcX7_least, g0, r230, k230, l230, sc, sv, v1, l70, e1]
          refine ⟨A, 70 * s + j, hMU, rfl, by omega, ?_⟩
          rw [w1]
          by_cases c3 : inSp a b x = true
          · rw [if_pos c3]
            have hsp : spQ a b x = (szN x, x.2.2.2.1, some x.2.2.2.2.1, some x.2.2.2.2.2.1) := by unfold spQ; rw [if_pos c3]
            by_cases c4 : ms = 0
            · obtain ⟨r1, r2⟩ := bst_add (ms := ms) (w := spQ a b x) (v := x.2.2.2.2.1) nv1 hwn (by unfold qsel; rw [if_pos c4, hsp])
              refine e_g2 hG [(49, [0, 1, 2, 3, 4, 5, 7])] 60 ?_
              simp only [e_wp_s, Option.getD_some, Option.isSome_some, Option.isSome_none, xis0, xis1, xis2, xis3, xis4, e_ks, lk_k, lk_c, List.lookup_nil, gt_c, vi_i, k1_n, k1_c, k2_n, k2_c, ar_n, ar_c, pk_n, pk_c, rm_0, rm_1, rm_2, rm_3, rm_4, rm_5, rc_9, rcs, fvs, rf_s, rf_n, isI_i, isL_l, isR_r, isR_n, isR_q, ct_i, ct_l, ct_r, ct_n, ct_q, tFs, tCs, tKs, tJs, tSs, e_nf, lgs, ↓reduceIte, true_and, and_true, false_and, and_false, or_true, true_or, false_or, or_false, Nat.reduceAdd, Nat.reduceEqDiff, Nat.reduceDiv, Nat.reduceLT, Nat.reduceLeDiff, Nat.zero_add, reduceCtorEq, Bool.false_eq_true, Option.toList_some, Option.toList_none, List.cons_append, List.nil_append, not_true_eq_false, not_false_eq_true, Nat.sub_zero, dsX7_least, jsX7_least, xcX7_least, g0, r241, k241, l241, i10, i1, i2, y1, c4, nI_1, ↓sp_X7_better]
              have ih2 := ih (j + 1) _ (by omega) hsn.symm r2
              rw [← r1] at ih2
              simp only [c4, if_true] at ih2
              exact ih2
            · obtain ⟨r1, r2⟩ := bst_add (ms := ms) (w := spQ a b x) (v := x.2.2.2.2.2.1) nv2 hwn (by unfold qsel; rw [if_neg c4, hsp])
              refine e_g2 hG [(49, [0, 1, 2, 3, 4, 5, 7])] 60 ?_
              simp only [e_wp_s, Option.getD_some, Option.isSome_some, Option.isSome_none, xis0, xis1, xis2, xis3, xis4, e_ks, lk_k, lk_c, List.lookup_nil, gt_c, vi_i, k1_n, k1_c, k2_n, k2_c, ar_n, ar_c, pk_n, pk_c, rm_0, rm_1, rm_2, rm_3, rm_4, rm_5, rc_9, rcs, fvs, rf_s, rf_n, isI_i, isL_l, isR_r, isR_n, isR_q, ct_i, ct_l, ct_r, ct_n, ct_q, tFs, tCs, tKs, tJs, tSs, e_nf, lgs, ↓reduceIte, true_and, and_true, false_and, and_false, or_true, true_or, false_or, or_false, Nat.reduceAdd, Nat.reduceEqDiff, Nat.reduceDiv, Nat.reduceLT, Nat.reduceLeDiff, Nat.zero_add, reduceCtorEq, Bool.false_eq_true, Option.toList_some, Option.toList_none, List.cons_append, List.nil_append, not_true_eq_false, not_false_eq_true, Nat.sub_zero, dsX7_least, jsX7_least, xcX7_least, g0, r242, k242, l242, i10, i1, i2, y2, c4, nI_1, ↓sp_X7_better]
              have ih2 := ih (j + 1) _ (by omega) hsn.symm r2
              rw [← r1] at ih2
              simp only [c4, if_false] at ih2
              exact ih2
          · rw [if_neg c3]
            have hsp : spQ a b x = q0 := by unfold spQ; rw [if_neg c3]
            rw [hsp, qadd_0] at hsn
            refine e_g2 hG [(49, [0, 1, 2, 3, 4, 5, 7])] 60 ?_
            simp only [e_wp_s, Option.getD_some, Option.isSome_some, Option.isSome_none, xis0, xis1, xis2, xis3, xis4, e_ks, lk_k, lk_c, List.lookup_nil, gt_c, vi_i, k1_n, k1_c, k2_n, k2_c, ar_n, ar_c, pk_n, pk_c, rm_0, rm_1, rm_2, rm_3, rm_4, rm_5, rc_9, rcs, fvs, rf_s, rf_n, isI_i, isL_l, isR_r, isR_n, isR_q, ct_i, ct_l, ct_r, ct_n, ct_q, tFs, tCs, tKs, tJs, tSs, e_nf, lgs, ↓reduceIte, true_and, and_true, false_and, and_false, or_true, true_or, false_or, or_false, Nat.reduceAdd, Nat.reduceEqDiff, Nat.reduceDiv, Nat.reduceLT, Nat.reduceLeDiff, Nat.zero_add, reduceCtorEq, Bool.false_eq_true, Option.toList_some, Option.toList_none, List.cons_append, List.nil_append, not_true_eq_false, not_false_eq_true, Nat.sub_zero, dsX7_least, jsX7_least, xcX7_least, i10, nI_1]
            exact ih (j + 1) w (by omega) hsn.symm hwn
      refine e_g2 hG [(49, [0, 1, 2, 3, 4, 5, 7])] 60 ?_
      simp only [e_wp_s, Option.getD_some, Option.isSome_some, Option.isSome_none, xis0, xis1, xis2, xis3, xis4, e_ks, lk_k, lk_c, List.lookup_nil, gt_c, vi_i, k1_n, k1_c, k2_n, k2_c, ar_n, ar_c, pk_n, pk_c, rm_0, rm_1, rm_2, rm_3, rm_4, rm_5, rc_9, rcs, fvs, rf_s, rf_n, isI_i, isL_l, isR_r, isR_n, isR_q, ct_i, ct_l, ct_r, ct_n, ct_q, tFs, tCs, tKs, tJs, tSs, e_nf, lgs, ↓reduceIte, true_and, and_true, false_and, and_false, or_true, true_or, false_or, or_false, Nat.reduceAdd, Nat.reduceEqDiff, Nat.reduceDiv, Nat.reduceLT, Nat.reduceLeDiff, Nat.zero_add, reduceCtorEq, Bool.false_eq_true, Option.toList_some, Option.toList_none, List.cons_append, List.nil_append, not_true_eq_false, not_false_eq_true, Nat.sub_zero, dsX7_least, jsX7_least, xcX7_least, l0]
      have hs0 := spl sp.length 0 q0 (by omega) rfl (fun y hy => by unfold qsel q0 at hy; split at hy <;> cases hy)
      have hb0 : bst (qsel ms q0) = NOv := by unfold qsel q0 bst; split <;> rfl
      rw [hb0] at hs0
      exact hs0
    · rw [if_neg c1] at hq
      refine e_g2 hG [] 60 ?_
      simp only [e_wp_s, Option.getD_some, Option.isSome_some, Option.isSome_none, xis0, xis1, xis2, xis3, xis4, e_ks, lk_k, lk_c, List.lookup_nil, gt_c, vi_i, k1_n, k1_c, k2_n, k2_c, ar_n, ar_c, pk_n, pk_c, rm_0, rm_1, rm_2, rm_3, rm_4, rm_5, rc_9, rcs, fvs, rf_s, rf_n, isI_i, isL_l, isR_r, isR_n, isR_q, ct_i, ct_l, ct_r, ct_n, ct_q, tFs, tCs, tKs, tJs, tSs, e_nf, lgs, ↓reduceIte, true_and, and_true, false_and, and_false, or_true, true_or, false_or, or_false, Nat.reduceAdd, Nat.reduceEqDiff, Nat.reduceDiv, Nat.reduceLT, Nat.reduceLeDiff, Nat.zero_add, reduceCtorEq, Bool.false_eq_true, Option.toList_some, Option.toList_none, List.cons_append, List.nil_append, not_true_eq_false, not_false_eq_true, Nat.sub_zero, dsX7_least, jsX7_least, xcX7_least, h0, h6, i10, c1, ↓sp_X7_isSeries, ↓sp_X7_isWindow]
      exact hq M hR Fr.rf
def grN (key v a b w : Int32) (c : Int64) (S : SER) : Int64 := if bear S key v then (if w = 0 then c + (nI (askM S a b q0).1).toInt64 else c + (askM S a b q0).2.1) else c
def grY (key v a b : Int32) (z : Nat × Nat × Nat) (S : SER) : Nat × Nat × Nat := if bear S key v then zad z (mLk 0 S a b) else z
def mGroup (L : List SER) (z : Nat × Nat × Nat) (key v a b w : Int32) : Int64 × Nat × Nat × Nat := if (¬ key < 0 ∧ key < 8) ∧ (¬ v < 0 ∧ v < 16) ∧ (¬ w < 0 ∧ ¬ 1 < w) ∧ ¬ a < 0 ∧ a < b then (L.foldl (grN key v a b w) 0, L.foldl (grY key v a b) (0, 0, 0)) else (NOv, z)
def csX7_group : CS := (cs_c 0 229 3 7 sp_X7_isWindow (cs_c 0 232 1 7 sp_X7_clear (cs_c 0 107 4 7 sp_X7_has (cs_c 0 235 5 7 sp_X7_look (cs_c 0 239 4 7 sp_X7_counted (cs_c 0 242 4 7 sp_X7_summed cs_0))))))
theorem csoX7_group : ∀ op x na cl sp, csX7_group op x = some (na, cl, sp) → CallOK 7 5 120 op x na cl sp := (cs_c_ok (caX7_group_229 okX7_isWindow) (cs_c_ok (caX7_group_232 okX7_clear) (cs_c_ok (caX7_group_107 okX7_has) (cs_c_ok (caX7_group_235 okX7_look) (cs_c_ok (caX7_group_239 okX7_counted) (cs_c_ok (caX7_group_242 okX7_summed) cs_0_ok))))))
theorem xcX7_group : (∀ (Q : QT) (G : GT) (pc : Nat) (L : LV) (a0 a1 a2 : Value) (r : List Value) (M : HM) (k n : Nat), ex_i 7 9 2 false csX7_group Q G (.invokevirtual 229) pc L (a2 :: a1 :: a0 :: r) M k n = (e_rm r ∧ e_rc M 7 [a0, a1, a2] ∧ sp_X7_isWindow [a0, a1, a2] M k n (fun v M' k' n' => G (pc + 3) L (v.toList ++ r) M' k' n'))) ∧ (∀ (Q : QT) (G : GT) (pc : Nat) (L : LV) (a0 : Value) (r : List Value) (M : HM) (k n : Nat), ex_i 7 9 2 false csX7_group Q G (.invokevirtual 232) pc L (a0 :: r) M k n = (e_rm r ∧ e_rc M 7 [a0] ∧ sp_X7_clear [a0] M k n (fun v M' k' n' => G (pc + 3) L (v.toList ++ r) M' k' n'))) ∧ (∀ (Q : QT) (G : GT) (pc : Nat) (L : LV) (a0 a1 a2 a3 : Value) (r : List Value) (M : HM) (k n : Nat), ex_i 7 9 2 false csX7_group Q G (.invokevirtual 107) pc L (a3 :: a2 :: a1 :: a0 :: r) M k n = (e_rm r ∧ e_rc M 7 [a0, a1, a2, a3] ∧ sp_X7_has [a0, a1, a2, a3] M k n (fun v M' k' n' => G (pc + 3) L (v.toList ++ r) M' k' n'))) ∧ (∀ (Q : QT) (G : GT) (pc : Nat) (L : LV) (a0 a1 a2 a3 a4 : Value) (r : List Value) (M : HM) (k n : Nat), ex_i 7 9 2 false csX7_group Q G (.invokevirtual 235) pc L (a4 :: a3 :: a2 :: a1 :: a0 :: r) M k n = (e_rm r ∧ e_rc M 7 [a0, a1, a2, a3, a4] ∧ sp_X7_look [a0, a1, a2, a3, a4] M k n (fun v M' k' n' => G (pc + 3) L (v.toList ++ r) M' k' n'))) ∧ (∀ (Q : QT) (G : GT) (pc : Nat) (L : LV) (a0 a1 a2 a3 : Value) (r : List Value) (M : HM) (k n : Nat), ex_i 7 9 2 false csX7_group Q G (.invokevirtual 239) pc L (a3 :: a2 :: a1 :: a0 :: r) M k n = (e_rm r ∧ e_rc M 7 [a0, a1, a2, a3] ∧ sp_X7_counted [a0, a1, a2, a3] M k n (fun v M' k' n' => G (pc + 3) L (v.toList ++ r) M' k' n'))) ∧ (∀ (Q : QT) (G : GT) (pc : Nat) (L : LV) (a0 a1 a2 a3 : Value) (r : List Value) (M : HM) (k n : Nat), ex_i 7 9 2 false csX7_group Q G (.invokevirtual 242) pc L (a3 :: a2 :: a1 :: a0 :: r) M k n = (e_rm r ∧ e_rc M 7 [a0, a1, a2, a3] ∧ sp_X7_summed [a0, a1, a2, a3] M k n (fun v M' k' n' => G (pc + 3) L (v.toList ++ r) M' k' n'))) := ⟨(fun _ _ _ _ _ _ _ _ _ _ _ => xv0_3 rfl), (fun _ _ _ _ _ _ _ _ _ => xv0_1 rfl), (fun _ _ _ _ _ _ _ _ _ _ _ _ => xv0_4 rfl), (fun _ _ _ _ _ _ _ _ _ _ _ _ _ => xv0_5 rfl), (fun _ _ _ _ _ _ _ _ _ _ _ _ => xv0_4 rfl), (fun _ _ _ _ _ _ _ _ _ _ _ _ => xv0_4 rfl)⟩
def sp_X7_group : SP := fun as M k n Q => match as with
  | [.ref m, .int key, .int v, .int a, .int b, .int w] => ∃ A O L z, MRp A O M m L z ∧ wft L ∧ (∀ S, S ∈ L → szOK 400 S.2.2.1) ∧ ∀ U, MRp A O U m L (mGroup L z key v a b w).2 → Fr (Ss m) O O M U → Q (some (.long (mGroup L z key v a b w).1)) U k n
  | _ => False
theorem okX7_group : OkX7_group sp_X7_group := by
  refine inX7_group csoX7_group ?_
  intro as M k n Q hsp
  unfold sp_X7_group at hsp
  split at hsp
  rotate_left
  · exact hsp.elim
  rename_i m key v a b w
  obtain ⟨A, O, L, z, hR, hwt, hsz, hq⟩ := hsp
  have hM := hR.1
  have hO := hR.2.1
  have h0 := hM.1
  have h8 := hR.2.2.1.2
  refine ⟨0, 0, Nat.zero_le _, Nat.zero_le _, Nat.le_of_ble_eq_true rfl, fun G hG => ?_⟩
  unfold mGroup at hq
  by_cases c1 : key < 0
  · rw [if_neg (fun q => q.1.1 c1)] at hq
    refine e_g2 hG [] 60 ?_
    simp only [e_wp_s, Option.getD_some, Option.isSome_some, Option.isSome_none, xis0, xis1, xis2, xis3, xis4, e_ks, lk_k, lk_c, List.lookup_nil, gt_c, vi_i, k1_n, k1_c, k2_n, k2_c, ar_n, ar_c, pk_n, pk_c, rm_0, rm_1, rm_2, rm_3, rm_4, rm_5, rc_9, rcs, fvs, rf_s, rf_n, isI_i, isL_l, isR_r, isR_n, isR_q, ct_i, ct_l, ct_r, ct_n, ct_q, tFs, tCs, tKs, tJs, tSs, e_nf, lgs, ↓reduceIte, true_and, and_true, false_and, and_false, or_true, true_or, false_or, or_false, Nat.reduceAdd, Nat.reduceEqDiff, Nat.reduceDiv, Nat.reduceLT, Nat.reduceLeDiff, Nat.zero_add, reduceCtorEq, Bool.false_eq_true, Option.toList_some, Option.toList_none, List.cons_append, List.nil_append, not_true_eq_false, not_false_eq_true, Nat.sub_zero, dsX7_group, jsX7_group, xcX7_group, c1]
    exact hq M hR Fr.rf
  by_cases c2 : key < 8
  · by_cases c3 : v < 0
    · rw [if_neg (fun q => q.2.1.1 c3)] at hq
      refine e_g2 hG [] 60 ?_
      simp only [e_wp_s, Option.getD_some, Option.isSome_some, Option.isSome_none, xis0, xis1, xis2, xis3, xis4, e_ks, lk_k, lk_c, List.lookup_nil, gt_c, vi_i, k1_n, k1_c, k2_n, k2_c, ar_n, ar_c, pk_n, pk_c, rm_0, rm_1, rm_2, rm_3, rm_4, rm_5, rc_9, rcs, fvs, rf_s, rf_n, isI_i, isL_l, isR_r, isR_n, isR_q, ct_i, ct_l, ct_r, ct_n, ct_q, tFs, tCs, tKs, tJs, tSs, e_nf, lgs, ↓reduceIte, true_and, and_true, false_and, and_false, or_true, true_or, false_or, or_false, Nat.reduceAdd, Nat.reduceEqDiff, Nat.reduceDiv, Nat.reduceLT, Nat.reduceLeDiff, Nat.zero_add, reduceCtorEq, Bool.false_eq_true, Option.toList_some, Option.toList_none, List.cons_append, List.nil_append, not_true_eq_false, not_false_eq_true, Nat.sub_zero, dsX7_group, jsX7_group, xcX7_group, c1, c2, c3, ile]
      exact hq M hR Fr.rf
    by_cases c4 : v < 16
    · by_cases c5 : ¬ a < 0 ∧ a < b
      · by_cases c6 : w < 0
        · rw [if_neg (fun q => q.2.2.1.1 c6)] at hq
          refine e_g2 hG [] 60 ?_
          simp only [e_wp_s, Option.getD_some, Option.isSome_some, Option.isSome_none, xis0, xis1, xis2, xis3, xis4, e_ks, lk_k, lk_c, List.lookup_nil, gt_c, vi_i, k1_n, k1_c, k2_n, k2_c, ar_n, ar_c, pk_n, pk_c, rm_0, rm_1, rm_2, rm_3, rm_4, rm_5, rc_9, rcs, fvs, rf_s, rf_n, isI_i, isL_l, isR_r, isR_n, isR_q, ct_i, ct_l, ct_r, ct_n, ct_q, tFs, tCs, tKs, tJs, tSs, e_nf, lgs, ↓reduceIte, true_and, and_true, false_and, and_false, or_true, true_or, false_or, or_false, Nat.reduceAdd, Nat.reduceEqDiff, Nat.reduceDiv, Nat.reduceLT, Nat.reduceLeDiff, Nat.zero_add, reduceCtorEq, Bool.false_eq_true, Option.toList_some, Option.toList_none, List.cons_append, List.nil_append, not_true_eq_false, not_false_eq_true, Nat.sub_zero, dsX7_group, jsX7_group, xcX7_group, h0, c1, c2, c3, c4, c5, c6, ile, i10, ↓sp_X7_isWindow]
          exact hq M hR Fr.rf
        by_cases c7 : 1 < w
        · rw [if_neg (fun q => q.2.2.1.2 c7)] at hq
          refine e_g2 hG [] 60 ?_
          simp only [e_wp_s, Option.getD_some, Option.isSome_some, Option.isSome_none, xis0, xis1, xis2, xis3, xis4, e_ks, lk_k, lk_c, List.lookup_nil, gt_c, vi_i, k1_n, k1_c, k2_n, k2_c, ar_n, ar_c, pk_n, pk_c, rm_0, rm_1, rm_2, rm_3, rm_4, rm_5, rc_9, rcs, fvs, rf_s, rf_n, isI_i, isL_l, isR_r, isR_n, isR_q, ct_i, ct_l, ct_r, ct_n, ct_q, tFs, tCs, tKs, tJs, tSs, e_nf, lgs, ↓reduceIte, true_and, and_true, false_and, and_false, or_true, true_or, false_or, or_false, Nat.reduceAdd, Nat.reduceEqDiff, Nat.reduceDiv, Nat.reduceLT, Nat.reduceLeDiff, Nat.zero_add, reduceCtorEq, Bool.false_eq_true, Option.toList_some, Option.toList_none, List.cons_append, List.nil_append, not_true_eq_false, not_false_eq_true, Nat.sub_zero, dsX7_group, jsX7_group, xcX7_group, h0, c1, c2, c3, c4, c5, c6, c7, ile, i10, ↓sp_X7_isWindow]
          exact hq M hR Fr.rf
        rw [if_pos ⟨⟨c1, c2⟩, ⟨c3, c4⟩, ⟨c6, c7⟩, c5⟩] at hq
        obtain ⟨k1, k2, k3, k4⟩ := clr_C (M := M) hO
        refine e_g2 hG [(49, [0, 1, 2, 3, 4, 5])] 60 ?_
        simp only [e_wp_s, Option.getD_some, Option.isSome_some, Option.isSome_none, xis0, xis1, xis2, xis3, xis4, e_ks, lk_k, lk_c, List.lookup_nil, gt_c, vi_i, k1_n, k1_c, k2_n, k2_c, ar_n, ar_c, pk_n, pk_c, rm_0, rm_1, rm_2, rm_3, rm_4, rm_5, rc_9, rcs, fvs, rf_s, rf_n, isI_i, isL_l, isR_r, isR_n, isR_q, ct_i, ct_l, ct_r, ct_n, ct_q, tFs, tCs, tKs, tJs, tSs, e_nf, lgs, ↓reduceIte, true_and, and_true, false_and, and_false, or_true, true_or, false_or, or_false, Nat.reduceAdd, Nat.reduceEqDiff, Nat.reduceDiv, Nat.reduceLT, Nat.reduceLeDiff, Nat.zero_add, reduceCtorEq, Bool.false_eq_true, Option.toList_some, Option.toList_none, List.cons_append, List.nil_append, not_true_eq_false, not_false_eq_true, Nat.sub_zero, dsX7_group, jsX7_group, xcX7_group, h0, c1, c2, c3, c4, c5, c6, c7, ile, i10, ↓sp_X7_isWindow, ↓sp_X7_clear]
        have loop : ∀ d j U c z', j + d = L.length → MC O A m [248, 249, 250, 251, 252, 253] M U → mI U 248 m = nI z'.1 → mI U 249 m = nI z'.2.1 → mI U 250 m = nI z'.2.2 → (L.drop j).foldl (grN key v a b w) c = L.foldl (grN key v a b w) 0 → (L.drop j).foldl (grY key v a b) z' = L.foldl (grY key v a b) (0, 0, 0) → G 55 [(0, .ref m), (1, .int key), (2, .int v), (3, .int a), (4, .int b), (5, .int w), (6, .long c), (8, .int (nI j))] [] U 0 0 := by
          intro d
          induction d with
          | zero =>
            intro j U c z' hj hC u1 u2 u3 hc hz
            rw [List.drop_eq_nil_of_le (by omega)] at hc hz
            have hc : c = L.foldl (grN key v a b w) 0 := hc
            have hz : z' = L.foldl (grY key v a b) (0, 0, 0) := hz
            have hRU := hR.zst (z' := z') hC u1 u2 u3
            have g0 := hRU.1.1
            have kc := hRU.2.2.1.1
            have e1 : ¬ nI j < nI L.length := nI_nlt (by omega) (by omega)
            rw [← hc, ← hz] at hq
            refine e_g2 hG [] 60 ?_
            simp only [e_wp_s, Option.getD_some, Option.isSome_some, Option.isSome_none, xis0, xis1, xis2, xis3, xis4, e_ks, lk_k, lk_c, List.lookup_nil, gt_c, vi_i, k1_n, k1_c, k2_n, k2_c, ar_n, ar_c, pk_n, pk_c, rm_0, rm_1, rm_2, rm_3, rm_4, rm_5, rc_9, rcs, fvs, rf_s, rf_n, isI_i, isL_l, isR_r, isR_n, isR_q, ct_i, ct_l, ct_r, ct_n, ct_q, tFs, tCs, tKs, tJs, tSs, e_nf, lgs, ↓reduceIte, true_and, and_true, false_and, and_false, or_true, true_or, false_or, or_false, Nat.reduceAdd, Nat.reduceEqDiff, Nat.reduceDiv, Nat.reduceLT, Nat.reduceLeDiff, Nat.zero_add, reduceCtorEq, Bool.false_eq_true, Option.toList_some, Option.toList_none, List.cons_append, List.nil_append, not_true_eq_false, not_false_eq_true, Nat.sub_zero, dsX7_group, jsX7_group, xcX7_group, g0, kc, e1]
            exact hq U hRU hC.2.2.2.1
          | succ d ih =>
            intro j U c z' hj hC u1 u2 u3 hc hz
            have hRU := hR.zst (z' := z') hC u1 u2 u3
            have hMU := hRU.1
            have g0 := hMU.1
            have kc := hRU.2.2.1.1
            have e1 : nI j < nI L.length := nI_lt (by omega) (by omega)
            obtain ⟨S, hx⟩ : ∃ S, L[j]? = some S := ⟨_, List.getElem?_eq_getElem (by omega)⟩
            have hd : L.drop j = S :: L.drop (j + 1) := by
              have hi := (List.getElem?_eq_some_iff.mp hx).1
              rw [List.drop_eq_getElem_cons hi]
              congr 1
              exact (List.getElem?_eq_some_iff.mp hx).2
            rw [hd, List.foldl_cons] at hc hz
            have hSU := hRU.2.2.2.1 j S hx
            refine e_g2 hG [(72, [0, 1, 2, 3, 4, 5, 6, 8])] 60 ?_
            simp only [e_wp_s, Option.getD_some, Option.isSome_some, Option.isSome_none, xis0, xis1, xis2, xis3, xis4, e_ks, lk_k, lk_c, List.lookup_nil, gt_c, vi_i, k1_n, k1_c, k2_n, k2_c, ar_n, ar_c, pk_n, pk_c, rm_0, rm_1, rm_2, rm_3, rm_4, rm_5, rc_9, rcs, fvs, rf_s, rf_n, isI_i, isL_l, isR_r, isR_n, isR_q, ct_i, ct_l, ct_r, ct_n, ct_q, tFs, tCs, tKs, tJs, tSs, e_nf, lgs, ↓reduceIte, true_and, and_true, false_and, and_false, or_true, true_or, false_or, or_false, Nat.reduceAdd, Nat.reduceEqDiff, Nat.reduceDiv, Nat.reduceLT, Nat.reduceLeDiff, Nat.zero_add, reduceCtorEq, Bool.false_eq_true, Option.toList_some, Option.toList_none, List.cons_append, List.nil_append, not_true_eq_false, not_false_eq_true, Nat.sub_zero, dsX7_group, jsX7_group, xcX7_group, g0, kc, e1]
            refine ⟨A, j, S, hMU, by omega, hSU.1, rfl, ?_⟩
            by_cases cb : bear S key v = true
            · rw [if_pos cb]
              rw [grN, if_pos cb] at hc
              rw [grY, if_pos cb] at hz
              refine e_g2 hG [(88, [0, 1, 2, 3, 4, 5, 6, 8])] 60 ?_
              simp only [e_wp_s, Option.getD_some, Option.isSome_some, Option.isSome_none, xis0, xis1, xis2, xis3, xis4, e_ks, lk_k, lk_c, List.lookup_nil, gt_c, vi_i, k1_n, k1_c, k2_n, k2_c, ar_n, ar_c, pk_n, pk_c, rm_0, rm_1, rm_2, rm_3, rm_4, rm_5, rc_9, rcs, fvs, rf_s, rf_n, isI_i, isL_l, isR_r, isR_n, isR_q, ct_i, ct_l, ct_r, ct_n, ct_q, tFs, tCs, tKs, tJs, tSs, e_nf, lgs, ↓reduceIte, true_and, and_true, false_and, and_false, or_true, true_or, false_or, or_false, Nat.reduceAdd, Nat.reduceEqDiff, Nat.reduceDiv, Nat.reduceLT, Nat.reduceLeDiff, Nat.zero_add, reduceCtorEq, Bool.false_eq_true, Option.toList_some, Option.toList_none, List.cons_append, List.nil_append, not_true_eq_false, not_false_eq_true, Nat.sub_zero, dsX7_group, jsX7_group, xcX7_group, g0, i10]
              refine ⟨O, A, j, S, z', 0, hMU, hO, by omega, hSU, hwt S (List.mem_of_getElem? hx), rfl, rfl, by decide, u1, u2, u3, fun C hC2 c48 c49 c50 => ?_⟩
              have hMC := hC2.ms hMU
              have d0 := hMC.1
              have hSC := hSU.q hC2.l6
              by_cases cw : w = 0
              · rw [if_pos cw] at hc
                refine e_g2 hG [(104, [0, 1, 2, 3, 4, 5, 8])] 60 ?_
                simp only [e_wp_s, Option.getD_some, Option.isSome_some, Option.isSome_none, xis0, xis1, xis2, xis3, xis4, e_ks, lk_k, lk_c, List.lookup_nil, gt_c, vi_i, k1_n, k1_c, k2_n, k2_c, ar_n, ar_c, pk_n, pk_c, rm_0, rm_1, rm_2, rm_3, rm_4, rm_5, rc_9, rcs, fvs, rf_s, rf_n, isI_i, isL_l, isR_r, isR_n, isR_q, ct_i, ct_l, ct_r, ct_n, ct_q, tFs, tCs, tKs, tJs, tSs, e_nf, lgs, ↓reduceIte, true_and, and_true, false_and, and_false, or_true, true_or, false_or, or_false, Nat.reduceAdd, Nat.reduceEqDiff, Nat.reduceDiv, Nat.reduceLT, Nat.reduceLeDiff, Nat.zero_add, reduceCtorEq, Bool.false_eq_true, Option.toList_some, Option.toList_none, List.cons_append, List.nil_append, not_true_eq_false, not_false_eq_true, Nat.sub_zero, dsX7_group, jsX7_group, xcX7_group, d0, cw]
                refine ⟨O, A, j, S, hMC, hO, by omega, hSC, hsz S (List.mem_of_getElem? hx), rfl, fun E hE => ?_⟩
                have hCE := (hC.tr hC2.l6).tr hE.a6
                refine e_g2 hG [(55, [0, 1, 2, 3, 4, 5, 6, 8])] 60 ?_
                simp only [e_wp_s, Option.getD_some, Option.isSome_some, Option.isSome_none, xis0, xis1, xis2, xis3, xis4, e_ks, lk_k, lk_c, List.lookup_nil, gt_c, vi_i, k1_n, k1_c, k2_n, k2_c, ar_n, ar_c, pk_n, pk_c, rm_0, rm_1, rm_2, rm_3, rm_4, rm_5, rc_9, rcs, fvs, rf_s, rf_n, isI_i, isL_l, isR_r, isR_n, isR_q, ct_i, ct_l, ct_r, ct_n, ct_q, tFs, tCs, tKs, tJs, tSs, e_nf, lgs, ↓reduceIte, true_and, and_true, false_and, and_false, or_true, true_or, false_or, or_false, Nat.reduceAdd, Nat.reduceEqDiff, Nat.reduceDiv, Nat.reduceLT, Nat.reduceLeDiff, Nat.zero_add, reduceCtorEq, Bool.false_eq_true, Option.toList_some, Option.toList_none, List.cons_append, List.nil_append, not_true_eq_false, not_false_eq_true, Nat.sub_zero, dsX7_group, jsX7_group, xcX7_group, nI_1]
                have := ih (j + 1) E _ (zad z' (mLk 0 S a b)) (by omega) hCE (by rw [hE.2.2.2.2.2 248 (by decide)]; exact c48) (by rw [hE.2.2.2.2.2 249 (by decide)]; exact c49) (by rw [hE.2.2.2.2.2 250 (by decide)]; exact c50) hc hz
                rw [cw] at this
                exact this
              · rw [if_neg cw] at hc
                refine e_g2 hG [(117, [0, 1, 2, 3, 4, 5, 8])] 60 ?_
                simp only [e_wp_s, Option.getD_some, Option.isSome_some, Option.isSome_none, xis0, xis1, xis2, xis3, xis4, e_ks, lk_k, lk_c, List.lookup_nil, gt_c, vi_i, k1_n, k1_c, k2_n, k2_c, ar_n, ar_c, pk_n, pk_c, rm_0, rm_1, rm_2, rm_3, rm_4, rm_5, rc_9, rcs, fvs, rf_s, rf_n, isI_i, isL_l, isR_r, isR_n, isR_q, ct_i, ct_l, ct_r, ct_n, ct_q, tFs, tCs, tKs, tJs, tSs, e_nf, lgs, ↓reduceIte, true_and, and_true, false_and, and_false, or_true, true_or, false_or, or_false, Nat.reduceAdd, Nat.reduceEqDiff, Nat.reduceDiv, Nat.reduceLT, Nat.reduceLeDiff, Nat.zero_add, reduceCtorEq, Bool.false_eq_true, Option.toList_some, Option.toList_none, List.cons_append, List.nil_append, not_true_eq_false, not_false_eq_true, Nat.sub_zero, dsX7_group, jsX7_group, xcX7_group, d0, cw]
                refine ⟨O, A, j, S, hMC, hO, by omega, hSC, rfl, fun E hE => ?_⟩
                have hCE := (hC.tr hC2.l6).tr hE.a6
                refine e_g2 hG [(55, [0, 1, 2, 3, 4, 5, 6, 8])] 60 ?_
                simp only [e_wp_s, Option.getD_some, Option.isSome_some, Option.isSome_none, xis0, xis1, xis2, xis3, xis4, e_ks, lk_k, lk_c, List.lookup_nil, gt_c, vi_i, k1_n, k1_c, k2_n, k2_c, ar_n, ar_c, pk_n, pk_c, rm_0, rm_1, rm_2, rm_3, rm_4, rm_5, rc_9, rcs, fvs, rf_s, rf_n, isI_i, isL_l, isR_r, isR_n, isR_q, ct_i, ct_l, ct_r, ct_n, ct_q, tFs, tCs, tKs, tJs, tSs, e_nf, lgs, ↓reduceIte, true_and, and_true, false_and, and_false, or_true, true_or, false_or, or_false, Nat.reduceAdd, Nat.reduceEqDiff, Nat.reduceDiv, Nat.reduceLT, Nat.reduceLeDiff, Nat.zero_add, reduceCtorEq, Bool.false_eq_true, Option.toList_some, Option.toList_none, List.cons_append, List.nil_append, not_true_eq_false, not_false_eq_true, Nat.sub_zero, dsX7_group, jsX7_group, xcX7_group, nI_1]
                exact ih (j + 1) E _ (zad z' (mLk 0 S a b)) (by omega) hCE (by rw [hE.2.2.2.2.2 248 (by decide)]; exact c48) (by rw [hE.2.2.2.2.2 249 (by decide)]; exact c49) (by rw [hE.2.2.2.2.2 250 (by decide)]; exact c50) hc hz
            · rw [if_neg cb]
              rw [grN, if_neg cb] at hc
              rw [grY, if_neg cb] at hz
              refine e_g2 hG [(55, [0, 1, 2, 3, 4, 5, 6, 8])] 60 ?_
              simp only [e_wp_s, Option.getD_some, Option.isSome_some, Option.isSome_none, xis0, xis1, xis2, xis3, xis4, e_ks, lk_k, lk_c, List.lookup_nil, gt_c, vi_i, k1_n, k1_c, k2_n, k2_c, ar_n, ar_c, pk_n, pk_c, rm_0, rm_1, rm_2, rm_3, rm_4, rm_5, rc_9, rcs, fvs, rf_s, rf_n, isI_i, isL_l, isR_r, isR_n, isR_q, ct_i, ct_l, ct_r, ct_n, ct_q, tFs, tCs, tKs, tJs, tSs, e_nf, lgs, ↓reduceIte, true_and, and_true, false_and, and_false, or_true, true_or, false_or, or_false, Nat.reduceAdd, Nat.reduceEqDiff, Nat.reduceDiv, Nat.reduceLT, Nat.reduceLeDiff, Nat.zero_add, reduceCtorEq, Bool.false_eq_true, Option.toList_some, Option.toList_none, List.cons_append, List.nil_append, not_true_eq_false, not_false_eq_true, Nat.sub_zero, dsX7_group, jsX7_group, xcX7_group, i10, nI_1]
              exact ih (j + 1) U c z' (by omega) hC u1 u2 u3 hc hz
        refine e_g2 hG [(55, [0, 1, 2, 3, 4, 5, 6, 8])] 60 ?_
        simp only [e_wp_s, Option.getD_some, Option.isSome_some, Option.isSome_none, xis0, xis1, xis2, xis3, xis4, e_ks, lk_k, lk_c, List.lookup_nil, gt_c, vi_i, k1_n, k1_c, k2_n, k2_c, ar_n, ar_c, pk_n, pk_c, rm_0, rm_1, rm_2, rm_3, rm_4, rm_5, rc_9, rcs, fvs, rf_s, rf_n, isI_i, isL_l, isR_r, isR_n, isR_q, ct_i, ct_l, ct_r, ct_n, ct_q, tFs, tCs, tKs, tJs, tSs, e_nf, lgs, ↓reduceIte, true_and, and_true, false_and, and_false, or_true, true_or, false_or, or_false, Nat.reduceAdd, Nat.reduceEqDiff, Nat.reduceDiv, Nat.reduceLT, Nat.reduceLeDiff, Nat.zero_add, reduceCtorEq, Bool.false_eq_true, Option.toList_some, Option.toList_none, List.cons_append, List.nil_append, not_true_eq_false, not_false_eq_true, Nat.sub_zero, dsX7_group, jsX7_group, xcX7_group]
        exact loop L.length 0 _ 0 (0, 0, 0) (by omega) k1.l6 k2 k3 k4 rfl rfl
      · rw [if_neg (fun q => c5 q.2.2.2)] at hq
        refine e_g2 hG [] 60 ?_
        simp only [e_wp_s, Option.getD_some, Option.isSome_some, Option.isSome_none, xis0, xis1, xis2, xis3, xis4, e_ks, lk_k, lk_c, List.lookup_nil, gt_c, vi_i, k1_n, k1_c, k2_n, k2_c, ar_n, ar_c, pk_n, pk_c, rm_0, rm_1, rm_2, rm_3, rm_4, rm_5, rc_9, rcs, fvs, rf_s, rf_n, isI_i, isL_l, isR_r, isR_n, isR_q, ct_i, ct_l, ct_r, ct_n, ct_q, tFs, tCs, tKs, tJs, tSs, e_nf, lgs, ↓reduceIte, true_and, and_true, false_and, and_false, or_true, true_or, false_or, or_false, Nat.reduceAdd, Nat.reduceEqDiff, Nat.reduceDiv, Nat.reduceLT, Nat.reduceLeDiff, Nat.zero_add, reduceCtorEq, Bool.false_eq_true, Option.toList_some, Option.toList_none, List.cons_append, List.nil_append, not_true_eq_false, not_false_eq_true, Nat.sub_zero, dsX7_group, jsX7_group, xcX7_group, h0, c1, c2, c3, c4, c5, ile, i10, ↓sp_X7_isWindow]
        exact hq M hR Fr.rf
    · rw [if_neg (fun q => c4 q.2.1.2)] at hq
      refine e_g2 hG [] 60 ?_
      simp only [e_wp_s, Option.getD_some, Option.isSome_some, Option.isSome_none, xis0, xis1, xis2, xis3, xis4, e_ks, lk_k, lk_c, List.lookup_nil, gt_c, vi_i, k1_n, k1_c, k2_n, k2_c, ar_n, ar_c, pk_n, pk_c, rm_0, rm_1, rm_2, rm_3, rm_4, rm_5, rc_9, rcs, fvs, rf_s, rf_n, isI_i, isL_l, isR_r, isR_n, isR_q, ct_i, ct_l, ct_r, ct_n, ct_q, tFs, tCs, tKs, tJs, tSs, e_nf, lgs, ↓reduceIte, true_and, and_true, false_and, and_false, or_true, true_or, false_or, or_false, Nat.reduceAdd, Nat.reduceEqDiff, Nat.reduceDiv, Nat.reduceLT, Nat.reduceLeDiff, Nat.zero_add, reduceCtorEq, Bool.false_eq_true, Option.toList_some, Option.toList_none, List.cons_append, List.nil_append, not_true_eq_false, not_false_eq_true, Nat.sub_zero, dsX7_group, jsX7_group, xcX7_group, c1, c2, c3, c4, ile]
      exact hq M hR Fr.rf
  · rw [if_neg (fun q => c2 q.1.2)] at hq
    refine e_g2 hG [] 60 ?_
    simp only [e_wp_s, Option.getD_some, Option.isSome_some, Option.isSome_none, xis0, xis1, xis2, xis3, xis4, e_ks, lk_k, lk_c, List.lookup_nil, gt_c, vi_i, k1_n, k1_c, k2_n, k2_c, ar_n, ar_c, pk_n, pk_c, rm_0, rm_1, rm_2, rm_3, rm_4, rm_5, rc_9, rcs, fvs, rf_s, rf_n, isI_i, isL_l, isR_r, isR_n, isR_q, ct_i, ct_l, ct_r, ct_n, ct_q, tFs, tCs, tKs, tJs, tSs, e_nf, lgs, ↓reduceIte, true_and, and_true, false_and, and_false, or_true, true_or, false_or, or_false, Nat.reduceAdd, Nat.reduceEqDiff, Nat.reduceDiv, Nat.reduceLT, Nat.reduceLeDiff, Nat.zero_add, reduceCtorEq, Bool.false_eq_true, Option.toList_some, Option.toList_none, List.cons_append, List.nil_append, not_true_eq_false, not_false_eq_true, Nat.sub_zero, dsX7_group, jsX7_group, xcX7_group, c1, c2, ile]
    exact hq M hR Fr.rf
