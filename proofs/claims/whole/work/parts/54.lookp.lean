/-! Question: by points; a new gatherer -/
def unr (x0 b : Int32) (x : BLK) : Bool := !tornB x && tch x0 b x
def csX2_lookByPoints : CS := (cs_c 0 42 4 1 sp_X1_begin (cs_c 0 53 2 4 sp_X4_blockAt (cs_c 0 63 1 0 sp_X0_isTorn (cs_c 0 57 3 0 sp_X0_touches (cs_c 0 87 3 1 sp_X1_unpack (cs_c 0 91 2 1 sp_X1_finish cs_0))))))
theorem csoX2_lookByPoints : ∀ op x na cl sp, csX2_lookByPoints op x = some (na, cl, sp) → CallOK 2 5 111 op x na cl sp := (cs_c_ok (caX2_lookByPoints_42 okX1_begin) (cs_c_ok (caX2_lookByPoints_53 okX4_blockAt) (cs_c_ok (caX2_lookByPoints_63 okX0_isTorn) (cs_c_ok (caX2_lookByPoints_57 okX0_touches) (cs_c_ok (caX2_lookByPoints_87 okX1_unpack) (cs_c_ok (caX2_lookByPoints_91 okX1_finish) cs_0_ok))))))
theorem xcX2_lookByPoints : (∀ (Q : QT) (G : GT) (pc : Nat) (L : LV) (a0 a1 a2 a3 : Value) (r : List Value) (M : HM) (k n : Nat), ex_i 2 6 0 false csX2_lookByPoints Q G (.invokevirtual 42) pc L (a3 :: a2 :: a1 :: a0 :: r) M k n = (e_rm r ∧ e_rc M 1 [a0, a1, a2, a3] ∧ sp_X1_begin [a0, a1, a2, a3] M k n (fun v M' k' n' => G (pc + 3) L (v.toList ++ r) M' k' n'))) ∧ (∀ (Q : QT) (G : GT) (pc : Nat) (L : LV) (a0 a1 : Value) (r : List Value) (M : HM) (k n : Nat), ex_i 2 6 0 false csX2_lookByPoints Q G (.invokevirtual 53) pc L (a1 :: a0 :: r) M k n = (e_rm r ∧ e_rc M 4 [a0, a1] ∧ sp_X4_blockAt [a0, a1] M k n (fun v M' k' n' => G (pc + 3) L (v.toList ++ r) M' k' n'))) ∧ (∀ (Q : QT) (G : GT) (pc : Nat) (L : LV) (a0 : Value) (r : List Value) (M : HM) (k n : Nat), ex_i 2 6 0 false csX2_lookByPoints Q G (.invokevirtual 63) pc L (a0 :: r) M k n = (e_rm r ∧ e_rc M 0 [a0] ∧ sp_X0_isTorn [a0] M k n (fun v M' k' n' => G (pc + 3) L (v.toList ++ r) M' k' n'))) ∧ (∀ (Q : QT) (G : GT) (pc : Nat) (L : LV) (a0 a1 a2 : Value) (r : List Value) (M : HM) (k n : Nat), ex_i 2 6 0 false csX2_lookByPoints Q G (.invokevirtual 57) pc L (a2 :: a1 :: a0 :: r) M k n = (e_rm r ∧ e_rc M 0 [a0, a1, a2] ∧ sp_X0_touches [a0, a1, a2] M k n (fun v M' k' n' => G (pc + 3) L (v.toList ++ r) M' k' n'))) ∧ (∀ (Q : QT) (G : GT) (pc : Nat) (L : LV) (a0 a1 a2 : Value) (r : List Value) (M : HM) (k n : Nat), ex_i 2 6 0 false csX2_lookByPoints Q G (.invokevirtual 87) pc L (a2 :: a1 :: a0 :: r) M k n = (e_rm r ∧ e_rc M 1 [a0, a1, a2] ∧ sp_X1_unpack [a0, a1, a2] M k n (fun v M' k' n' => G (pc + 3) L (v.toList ++ r) M' k' n'))) ∧ (∀ (Q : QT) (G : GT) (pc : Nat) (L : LV) (a0 a1 : Value) (r : List Value) (M : HM) (k n : Nat), ex_i 2 6 0 false csX2_lookByPoints Q G (.invokevirtual 91) pc L (a1 :: a0 :: r) M k n = (e_rm r ∧ e_rc M 1 [a0, a1] ∧ sp_X1_finish [a0, a1] M k n (fun v M' k' n' => G (pc + 3) L (v.toList ++ r) M' k' n'))) := ⟨(fun _ _ _ _ _ _ _ _ _ _ _ _ => xv0_4 rfl), (fun _ _ _ _ _ _ _ _ _ _ => xv0_2 rfl), (fun _ _ _ _ _ _ _ _ _ => xv0_1 rfl), (fun _ _ _ _ _ _ _ _ _ _ _ => xv0_3 rfl), (fun _ _ _ _ _ _ _ _ _ _ _ => xv0_3 rfl), (fun _ _ _ _ _ _ _ _ _ _ => xv0_2 rfl)⟩
def sp_X2_lookByPoints : SP := fun as M k n Q => match as with
  | [.ref q, .ref s, .int x0, .ref g] => ∃ O rq r a b u sc ct tr kd lab sp bk lt, QR M q a b u sc ct tr ∧ SRep O M s kd lab sp bk lt ∧ GW O M r g ∧ ((O q).1 = rq ∧ rq ≠ s ∧ r ≠ s ∧ rq ≠ r) ∧ neB bk ∧ (mpts bk).length ≤ 300 ∧ ∀ M', QR M' q a b u (sc + szs (unr x0 b) bk) ct (tr + cnt (trn a b) bk) → GP O M' r g (gth lt x0 b (mpts (bk.filter (unr x0 b)))) → Fr (S2r rq r) O O M M' → Q none M' k n
  | _ => False
theorem okX2_lookByPoints : OkX2_lookByPoints sp_X2_lookByPoints := by
  refine inX2_lookByPoints csoX2_lookByPoints ?_
  intro as M k n Q hsp
  unfold sp_X2_lookByPoints at hsp
  split at hsp
  rotate_left
  · exact hsp.elim
  rename_i q s x0 g
  obtain ⟨O, rq, r, a, b, u, sc, ct, tr, kd, lab, sp, bk, lt, hQ, hS, hg, ⟨hrq, hrqs, hrs, hne⟩, hnb, h300, hq⟩ := hsp
  have hsr : ∀ a o, o.1 = s → ¬ S2r rq r a o := fun a o ho e => e.elim (fun e => hrqs (e.symm.trans ho)) (fun e => hrs (e.symm.trans ho))
  have toQ : ∀ {M1 M2}, Fr (Ss rq) O O M1 M2 → Fr (S2r rq r) O O M1 M2 := fun h => h.mono (fun _ _ e => Or.inl e)
  have toG : ∀ {M1 M2}, Fr (Ss r) O O M1 M2 → Fr (S2r rq r) O O M1 M2 := fun h => h.mono (fun _ _ e => Or.inr e)
  have h40 := hS.2.2.2.2.2.1
  have hbl := hS.2.2.2.1.2.1
  have hle := lbl_le x0 lt
  refine ⟨0, 0, Nat.zero_le _, Nat.zero_le _, Nat.le_of_ble_eq_true rfl, fun G hG => ?_⟩
  have loop : ∀ d i M', i + d = bk.length → QR M' q a b u (sc + szs (unr x0 b) (bk.take i)) ct (tr + cnt (trn a b) (bk.take i)) → GG O M' r g (((mpts ((bk.take i).filter (unr x0 b))).filter (wn x0 b)).foldl (gm lt) ([], lbl x0 lt)).1 x0 b (((mpts ((bk.take i).filter (unr x0 b))).filter (wn x0 b)).foldl (gm lt) ([], lbl x0 lt)).2 → Fr (S2r rq r) O O M M' → G 13 [(0, .ref q), (1, .ref s), (2, .int x0), (3, .ref g), (4, .int (nI i))] [] M' 0 0 := by
    intro d
    induction d with
    | zero =>
      intro i M' hi hQ' hg' hF'
      have hS' := hS.frm hF' hsr
      have s0 := hS'.1.1.1
      have sc' := hS'.2.2.2.1.1
      have g0 := hg'.1.1.1
      have e1 : ¬ nI i < nI bk.length := nI_nlt (by omega) (by omega)
      rw [show i = bk.length by omega, List.take_length] at hg' hQ'
      have hb := gms_le (lt := lt) ((mpts (bk.filter (unr x0 b))).filter (wn x0 b)) ([], lbl x0 lt) hle
      have hb2 : ((mpts (bk.filter (unr x0 b))).filter (wn x0 b)).length ≤ 300 := Nat.le_trans (List.length_filter_le _ _) (Nat.le_trans (mf_le _ bk) h300)
      have hb3 : (((mpts (bk.filter (unr x0 b))).filter (wn x0 b)).foldl (gm lt) ([], lbl x0 lt)).1.length + (lt.length - (((mpts (bk.filter (unr x0 b))).filter (wn x0 b)).foldl (gm lt) ([], lbl x0 lt)).2) ≤ 0 + (lt.length - lbl x0 lt) + ((mpts (bk.filter (unr x0 b))).filter (wn x0 b)).length := hb.2
      refine e_g2 hG [(124, [])] 40 ?_
      simp only [e_wp_s, Option.getD_some, Option.isSome_some, Option.isSome_none, xis0, xis1, xis2, xis3, xis4, e_ks, lk_k, lk_c, List.lookup_nil, gt_c, vi_i, k1_n, k1_c, k2_n, k2_c, ar_n, ar_c, pk_n, pk_c, rm_0, rm_1, rm_2, rm_3, rm_4, rm_5, rc_9, rcs, fvs, rf_s, rf_n, isI_i, isL_l, isR_r, isR_n, isR_q, ct_i, ct_l, ct_r, ct_n, ct_q, tFs, tCs, tKs, tJs, tSs, e_nf, lgs, ↓reduceIte, true_and, and_true, false_and, and_false, or_true, true_or, false_or, or_false, Nat.reduceAdd, Nat.reduceEqDiff, Nat.reduceDiv, Nat.reduceLT, Nat.reduceLeDiff, Nat.zero_add, reduceCtorEq, Bool.false_eq_true, Option.toList_some, Option.toList_none, List.cons_append, List.nil_append, not_true_eq_false, not_false_eq_true, Nat.sub_zero, dsX2_lookByPoints, jsX2_lookByPoints, xcX2_lookByPoints, s0, sc', g0, e1]
      refine ⟨O, r, _, _, _, _, kd, lab, sp, bk, lt, hg', hS', hrs, hb.1, by omega, fun M2 hg2 hF2 => ?_⟩
      have hQ2 := hQ'.frm ((hF2 q (by rw [hQ'.1]; decide)).2.2 (fun e => hne (hrq.symm.trans e)))
      refine e_g2 hG [] 40 ?_
      simp only [e_wp_s, Option.getD_some, Option.isSome_some, Option.isSome_none, xis0, xis1, xis2, xis3, xis4, e_ks, lk_k, lk_c, List.lookup_nil, gt_c, vi_i, k1_n, k1_c, k2_n, k2_c, ar_n, ar_c, pk_n, pk_c, rm_0, rm_1, rm_2, rm_3, rm_4, rm_5, rc_9, rcs, fvs, rf_s, rf_n, isI_i, isL_l, isR_r, isR_n, isR_q, ct_i, ct_l, ct_r, ct_n, ct_q, tFs, tCs, tKs, tJs, tSs, e_nf, lgs, ↓reduceIte, true_and, and_true, false_and, and_false, or_true, true_or, false_or, or_false, Nat.reduceAdd, Nat.reduceEqDiff, Nat.reduceDiv, Nat.reduceLT, Nat.reduceLeDiff, Nat.zero_add, reduceCtorEq, Bool.false_eq_true, Option.toList_some, Option.toList_none, List.cons_append, List.nil_append, not_true_eq_false, not_false_eq_true, Nat.sub_zero, dsX2_lookByPoints, jsX2_lookByPoints, xcX2_lookByPoints]
      exact hq M2 hQ2 hg2 (hF'.tr (toG hF2))
    | succ d ih =>
      intro i M' hi hQ' hg' hF'
      have hS' := hS.frm hF' hsr
      have s0 := hS'.1.1.1
      have sR := hS'.1.1
      have sc' := hS'.2.2.2.1.1
      have g0 := hg'.1.1.1
      obtain ⟨k0, k1, k2, -, -, -, -, k70, k71, k72⟩ := id hQ'
      have e1 : nI i < nI bk.length := nI_lt (by omega) (by omega)
      obtain ⟨x, hx⟩ : ∃ x, bk[i]? = some x := ⟨_, List.getElem?_eq_getElem (by omega)⟩
      obtain ⟨b', fb, -, hB, -⟩ := hS'.bAt hx
      have b0 := hB.K
      have hxn := hnb x (List.mem_of_getElem? hx)
      have hxl : 0 < x.1.length := by
        cases hl : x.1 with
        | nil => exact absurd hl hxn
        | cons _ _ => exact Nat.succ_pos _
      have hB2 := hB
      obtain ⟨-, -, -, -, -, -, -, -, ⟨v4, v16⟩, v9, -, -, -, hv⟩ := hB2
      obtain ⟨v5, v6, -, v7, v8⟩ := hv hxn
      have v0 : 0 < nI x.1.length := nI_lt (a := 0) hxl (by omega)
      have ih2 := ih (i + 1)
      rw [mf_take hx, szs_take hx, cnt_take hx] at ih2
      have tchF : ∀ c, ¬ (fst1 x.1 < b ∧ ¬ eT (enc x.1) < c) → tch c b x = false := fun c hc => by
        unfold tch
        rcases Decidable.not_and_iff_not_or_not.mp hc with z | z
        · simp [z]
        · simp only [Decidable.not_not] at z; simp [z]
      by_cases c : tornB x = true
      · have ht := hB.torn.mpr c
        have f2 : unr x0 b x = false := by unfold unr; simp [c]
        by_cases ct1 : fst1 x.1 < b ∧ ¬ eT (enc x.1) < a
        · have ct2 : tch a b x = true := by unfold tch; simp [ct1.1, ct1.2]
          have f3 : trn a b x = true := by unfold trn; simp [c, ct2]
          simp only [f2, f3, Bool.false_eq_true, ↓reduceIte, List.append_nil, Nat.add_zero] at ih2
          refine e_g2 hG [(13, [0, 1, 2, 3, 4])] 60 ?_
          simp only [e_wp_s, Option.getD_some, Option.isSome_some, Option.isSome_none, xis0, xis1, xis2, xis3, xis4, e_ks, lk_k, lk_c, List.lookup_nil, gt_c, vi_i, k1_n, k1_c, k2_n, k2_c, ar_n, ar_c, pk_n, pk_c, rm_0, rm_1, rm_2, rm_3, rm_4, rm_5, rc_9, rcs, fvs, rf_s, rf_n, isI_i, isL_l, isR_r, isR_n, isR_q, ct_i, ct_l, ct_r, ct_n, ct_q, tFs, tCs, tKs, tJs, tSs, e_nf, lgs, ↓reduceIte, true_and, and_true, false_and, and_false, or_true, true_or, false_or, or_false, Nat.reduceAdd, Nat.reduceEqDiff, Nat.reduceDiv, Nat.reduceLT, Nat.reduceLeDiff, Nat.zero_add, reduceCtorEq, Bool.false_eq_true, Option.toList_some, Option.toList_none, List.cons_append, List.nil_append, not_true_eq_false, not_false_eq_true, Nat.sub_zero, dsX2_lookByPoints, jsX2_lookByPoints, xcX2_lookByPoints, s0, sR, sc', g0, e1, fb, b0, v4, v5, v6, v0, ct1, ht, k0, k1, k2, k72, i10, nI_1, ↓sp_X4_blockAt, ↓sp_X0_touches, ↓sp_X0_isTorn]
          have hF2 : Fr (Ss rq) O O M' (sI M' 72 q (nI (tr + cnt (trn a b) (bk.take i) + 1))) := s7_fr hrq
          have hg2 := (hg'.frm hF2 (fun e => hne (e.symm.trans hg'.1.2.1.1)) (fun e => hne (e.symm.trans hg'.1.2.1.2.1)) (fun e => hne (e.symm.trans hg'.1.2.1.2.2.1))).1
          exact ih2 _ (by omega) hQ'.s72 hg2 (hF'.tr (toQ hF2))
        · have ct2 := tchF a ct1
          have f3 : trn a b x = false := by unfold trn; simp [ct2]
          simp only [f2, f3, Bool.false_eq_true, ↓reduceIte, List.append_nil, Nat.add_zero] at ih2
          have z0 : nI (tr + cnt (trn a b) (bk.take i)) + 0 = nI (tr + cnt (trn a b) (bk.take i)) := Int32.add_zero _
          refine e_g2 hG [(13, [0, 1, 2, 3, 4])] 60 ?_
          simp only [e_wp_s, Option.getD_some, Option.isSome_some, Option.isSome_none, xis0, xis1, xis2, xis3, xis4, e_ks, lk_k, lk_c, List.lookup_nil, gt_c, vi_i, k1_n, k1_c, k2_n, k2_c, ar_n, ar_c, pk_n, pk_c, rm_0, rm_1, rm_2, rm_3, rm_4, rm_5, rc_9, rcs, fvs, rf_s, rf_n, isI_i, isL_l, isR_r, isR_n, isR_q, ct_i, ct_l, ct_r, ct_n, ct_q, tFs, tCs, tKs, tJs, tSs, e_nf, lgs, ↓reduceIte, true_and, and_true, false_and, and_false, or_true, true_or, false_or, or_false, Nat.reduceAdd, Nat.reduceEqDiff, Nat.reduceDiv, Nat.reduceLT, Nat.reduceLeDiff, Nat.zero_add, reduceCtorEq, Bool.false_eq_true, Option.toList_some, Option.toList_none, List.cons_append, List.nil_append, not_true_eq_false, not_false_eq_true, Nat.sub_zero, dsX2_lookByPoints, jsX2_lookByPoints, xcX2_lookByPoints, s0, sR, sc', g0, e1, fb, b0, v4, v5, v6, v0, ct1, ht, k0, k1, k2, k72, i10, z0, nI_1, ↓sp_X4_blockAt, ↓sp_X0_touches, ↓sp_X0_isTorn]
          have hF2 : Fr (Ss rq) O O M' (sI M' 72 q (nI (tr + cnt (trn a b) (bk.take i)))) := s7_fr hrq
          have hg2 := (hg'.frm hF2 (fun e => hne (e.symm.trans hg'.1.2.1.1)) (fun e => hne (e.symm.trans hg'.1.2.1.2.1)) (fun e => hne (e.symm.trans hg'.1.2.1.2.2.1))).1
          exact ih2 _ (by omega) hQ'.s72 hg2 (hF'.tr (toQ hF2))
      · have ht : ¬ 0 < mI M' 2 b' := fun z => c (hB.torn.mp z)
        have hz0 : x.2 = zf := hB.z (by
          unfold tornB at c
          simpa using c)
        have f3 : trn a b x = false := by unfold trn; simp [c]
        by_cases ct1 : fst1 x.1 < b ∧ ¬ eT (enc x.1) < x0
        · have ct2 : tch x0 b x = true := by unfold tch; simp [ct1.1, ct1.2]
          have f2 : unr x0 b x = true := by unfold unr; simp [c, ct2]
          simp only [f2, f3, Bool.false_eq_true, ↓reduceIte, List.filter_append, List.foldl_append, Nat.add_zero] at ih2
          rw [hz0] at hB
          have hb := gms_le (lt := lt) ((mpts ((bk.take i).filter (unr x0 b))).filter (wn x0 b)) ([], lbl x0 lt) hle
          have hm : (mpts ((bk.take (i + 1)).filter (unr x0 b))).length ≤ 300 := Nat.le_trans (mf_le _ _) (Nat.le_trans (mpts_take bk (i + 1)) h300)
          rw [mf_take hx, f2, if_pos rfl, List.length_append] at hm
          have hb2 : ((mpts ((bk.take i).filter (unr x0 b))).filter (wn x0 b)).length ≤ (mpts ((bk.take i).filter (unr x0 b))).length := List.length_filter_le _ _
          have hb3 : (((mpts ((bk.take i).filter (unr x0 b))).filter (wn x0 b)).foldl (gm lt) ([], lbl x0 lt)).1.length + (lt.length - (((mpts ((bk.take i).filter (unr x0 b))).filter (wn x0 b)).foldl (gm lt) ([], lbl x0 lt)).2) ≤ 0 + (lt.length - lbl x0 lt) + ((mpts ((bk.take i).filter (unr x0 b))).filter (wn x0 b)).length := hb.2
          refine e_g2 hG [(99, [0, 1, 2, 3, 4, 5])] 60 ?_
          simp only [e_wp_s, Option.getD_some, Option.isSome_some, Option.isSome_none, xis0, xis1, xis2, xis3, xis4, e_ks, lk_k, lk_c, List.lookup_nil, gt_c, vi_i, k1_n, k1_c, k2_n, k2_c, ar_n, ar_c, pk_n, pk_c, rm_0, rm_1, rm_2, rm_3, rm_4, rm_5, rc_9, rcs, fvs, rf_s, rf_n, isI_i, isL_l, isR_r, isR_n, isR_q, ct_i, ct_l, ct_r, ct_n, ct_q, tFs, tCs, tKs, tJs, tSs, e_nf, lgs, ↓reduceIte, true_and, and_true, false_and, and_false, or_true, true_or, false_or, or_false, Nat.reduceAdd, Nat.reduceEqDiff, Nat.reduceDiv, Nat.reduceLT, Nat.reduceLeDiff, Nat.zero_add, reduceCtorEq, Bool.false_eq_true, Option.toList_some, Option.toList_none, List.cons_append, List.nil_append, not_true_eq_false, not_false_eq_true, Nat.sub_zero, dsX2_lookByPoints, jsX2_lookByPoints, xcX2_lookByPoints, s0, sR, sc', g0, e1, fb, b0, v4, v5, v6, v0, ct1, ht, k0, k1, k2, i10, ↓sp_X4_blockAt, ↓sp_X0_touches, ↓sp_X0_isTorn]
          refine ⟨O, r, _, _, _, _, kd, lab, sp, bk, lt, x.1, hg', hS', hrs, hb.1, hB, by omega, fun M2 hg2 hF2 => ?_⟩
          have hQ2 := hQ'.frm ((hF2 q (by rw [hQ'.1]; decide)).2.2 (fun e => hne (hrq.symm.trans e)))
          have hB3 := hB.frm hF2 (fun e => hrs e.symm) (fun a e => hrs e.symm)
          have y0 := hB3.K
          have y4 : mI M2 4 b' = nI x.1.length := hB3.2.2.2.2.2.2.2.2.1.1
          have q0' := hQ2.1
          have q70 : mI M2 70 q = nI (sc + szs (unr x0 b) (bk.take i)) := hQ2.2.2.2.2.2.2.2.1
          have hF3 : Fr (Ss rq) O O M2 (sI M2 70 q (nI (sc + szs (unr x0 b) (bk.take i) + x.1.length))) := s7_fr hrq
          have hg3 := (hg2.frm hF3 (fun e => hne (e.symm.trans hg2.1.2.1.1)) (fun e => hne (e.symm.trans hg2.1.2.1.2.1)) (fun e => hne (e.symm.trans hg2.1.2.1.2.2.1))).1
          refine e_g2 hG [(13, [0, 1, 2, 3, 4])] 40 ?_
          simp only [e_wp_s, Option.getD_some, Option.isSome_some, Option.isSome_none, xis0, xis1, xis2, xis3, xis4, e_ks, lk_k, lk_c, List.lookup_nil, gt_c, vi_i, k1_n, k1_c, k2_n, k2_c, ar_n, ar_c, pk_n, pk_c, rm_0, rm_1, rm_2, rm_3, rm_4, rm_5, rc_9, rcs, fvs, rf_s, rf_n, isI_i, isL_l, isR_r, isR_n, isR_q, ct_i, ct_l, ct_r, ct_n, ct_q, tFs, tCs, tKs, tJs, tSs, e_nf, lgs, ↓reduceIte, true_and, and_true, false_and, and_false, or_true, true_or, false_or, or_false, Nat.reduceAdd, Nat.reduceEqDiff, Nat.reduceDiv, Nat.reduceLT, Nat.reduceLeDiff, Nat.zero_add, reduceCtorEq, Bool.false_eq_true, Option.toList_some, Option.toList_none, List.cons_append, List.nil_append, not_true_eq_false, not_false_eq_true, Nat.sub_zero, dsX2_lookByPoints, jsX2_lookByPoints, xcX2_lookByPoints, y0, y4, q0', q70, nI_add, nI_1]
          exact ih2 _ (by omega) (by rw [← Nat.add_assoc]; exact hQ2.s70) hg3 ((hF'.tr (toG hF2)).tr (toQ hF3))
        · have ct2 := tchF x0 ct1
          have f2 : unr x0 b x = false := by unfold unr; simp [ct2]
          simp only [f2, f3, Bool.false_eq_true, ↓reduceIte, List.append_nil, Nat.add_zero] at ih2
          refine e_g2 hG [(13, [0, 1, 2, 3, 4])] 60 ?_
          simp only [e_wp_s, Option.getD_some, Option.isSome_some, Option.isSome_none, xis0, xis1, xis2, xis3, xis4, e_ks, lk_k, lk_c, List.lookup_nil, gt_c, vi_i, k1_n, k1_c, k2_n, k2_c, ar_n, ar_c, pk_n, pk_c, rm_0, rm_1, rm_2, rm_3, rm_4, rm_5, rc_9, rcs, fvs, rf_s, rf_n, isI_i, isL_l, isR_r, isR_n, isR_q, ct_i, ct_l, ct_r, ct_n, ct_q, tFs, tCs, tKs, tJs, tSs, e_nf, lgs, ↓reduceIte, true_and, and_true, false_and, and_false, or_true, true_or, false_or, or_false, Nat.reduceAdd, Nat.reduceEqDiff, Nat.reduceDiv, Nat.reduceLT, Nat.reduceLeDiff, Nat.zero_add, reduceCtorEq, Bool.false_eq_true, Option.toList_some, Option.toList_none, List.cons_append, List.nil_append, not_true_eq_false, not_false_eq_true, Nat.sub_zero, dsX2_lookByPoints, jsX2_lookByPoints, xcX2_lookByPoints, s0, sR, sc', g0, e1, fb, b0, v4, v5, v6, v0, ct1, ht, k0, k1, k2, i10, nI_1, ↓sp_X4_blockAt, ↓sp_X0_touches, ↓sp_X0_isTorn]
          exact ih2 _ (by omega) hQ' hg' hF'
  obtain ⟨w0, w1, w2, -⟩ := id hQ
  have g0 := hg.1.1
  obtain ⟨z1, z2⟩ := hg.bg x0 b (lbl x0 lt)
  refine e_g2 hG [(10, [0, 1, 2, 3])] 40 ?_
  simp only [e_wp_s, Option.getD_some, Option.isSome_some, Option.isSome_none, xis0, xis1, xis2, xis3, xis4, e_ks, lk_k, lk_c, List.lookup_nil, gt_c, vi_i, k1_n, k1_c, k2_n, k2_c, ar_n, ar_c, pk_n, pk_c, rm_0, rm_1, rm_2, rm_3, rm_4, rm_5, rc_9, rcs, fvs, rf_s, rf_n, isI_i, isL_l, isR_r, isR_n, isR_q, ct_i, ct_l, ct_r, ct_n, ct_q, tFs, tCs, tKs, tJs, tSs, e_nf, lgs, ↓reduceIte, true_and, and_true, false_and, and_false, or_true, true_or, false_or, or_false, Nat.reduceAdd, Nat.reduceEqDiff, Nat.reduceDiv, Nat.reduceLT, Nat.reduceLeDiff, Nat.zero_add, reduceCtorEq, Bool.false_eq_true, Option.toList_some, Option.toList_none, List.cons_append, List.nil_append, not_true_eq_false, not_false_eq_true, Nat.sub_zero, dsX2_lookByPoints, jsX2_lookByPoints, xcX2_lookByPoints, w0, w2, g0]
  refine ⟨lt.length, g0, hS.1.1, hS.2.2.2.2.1, h40, ?_⟩
  rw [hS.lt]
  refine e_g2 hG [(13, [0, 1, 2, 3, 4])] 40 ?_
  simp only [e_wp_s, Option.getD_some, Option.isSome_some, Option.isSome_none, xis0, xis1, xis2, xis3, xis4, e_ks, lk_k, lk_c, List.lookup_nil, gt_c, vi_i, k1_n, k1_c, k2_n, k2_c, ar_n, ar_c, pk_n, pk_c, rm_0, rm_1, rm_2, rm_3, rm_4, rm_5, rc_9, rcs, fvs, rf_s, rf_n, isI_i, isL_l, isR_r, isR_n, isR_q, ct_i, ct_l, ct_r, ct_n, ct_q, tFs, tCs, tKs, tJs, tSs, e_nf, lgs, ↓reduceIte, true_and, and_true, false_and, and_false, or_true, true_or, false_or, or_false, Nat.reduceAdd, Nat.reduceEqDiff, Nat.reduceDiv, Nat.reduceLT, Nat.reduceLeDiff, Nat.zero_add, reduceCtorEq, Bool.false_eq_true, Option.toList_some, Option.toList_none, List.cons_append, List.nil_append, not_true_eq_false, not_false_eq_true, Nat.sub_zero, dsX2_lookByPoints, jsX2_lookByPoints, xcX2_lookByPoints]
  have hQ2 := hQ.frm ((z2 q (by rw [hQ.1]; decide)).2.2 (fun e => hne (hrq.symm.trans e)))
  exact loop bk.length 0 _ (by omega) hQ2 z1 (toG z2)
