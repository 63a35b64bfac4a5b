/-! the river: merge, thin -/
theorem rb_inv : ∀ l : List PT, (l.foldl apM []).length = (l.length + 15) / 16 ∧ ∀ x, (l.foldl apM []).getLast? = some x → x.2 = zf ∧ x.1.length + 16 * ((l.foldl apM []).length - 1) = l.length ∧ 0 < x.1.length ∧ x.1.length ≤ 16 := by
  apply list_snoc
  · exact ⟨rfl, fun x hx => by cases hx⟩
  · intro l p ih
    obtain ⟨h1, h2⟩ := ih
    rw [List.foldl_append]
    show (apM (l.foldl apM []) p).length = _ ∧ ∀ x, (apM (l.foldl apM []) p).getLast? = some x → _ ∧ _ + 16 * ((apM (l.foldl apM []) p).length - 1) = _ ∧ _
    generalize l.foldl apM [] = bk at *
    rw [List.length_append]
    simp only [List.length_cons, List.length_nil]
    rcases nil_snoc bk with rfl | ⟨b, y, rfl⟩
    · simp only [List.length_nil] at h1
      have hl : l.length = 0 := by omega
      rw [apM_open p rfl, hl]
      refine ⟨rfl, fun x hx => ?_⟩
      cases hx
      exact ⟨rfl, rfl, (by show 0 < 1; decide), (by show 1 ≤ 16; decide)⟩
    · obtain ⟨y1, y2, y3, y4⟩ := h2 y List.getLast?_concat
      rw [List.length_append] at h1 y2
      simp only [List.length_cons, List.length_nil] at h1 y2
      have hop : opb (b ++ [y]) = !decide (y.1.length < 16) := by rw [opb_snoc, y1, tcnt_0]; simp
      by_cases c : y.1.length < 16
      · have ho : ¬ opb (b ++ [y]) = true := by rw [hop]; simp [c]
        rw [apM_more p ho, List.length_append]
        simp only [List.length_cons, List.length_nil]
        refine ⟨by omega, fun x hx => ?_⟩
        rw [List.getLast?_concat] at hx
        cases hx
        refine ⟨y1, ?_, ?_, ?_⟩
        · show (y.1 ++ [p]).length + _ = _
          rw [List.length_append]; simp only [List.length_cons, List.length_nil]; omega
        · show 0 < (y.1 ++ [p]).length
          rw [List.length_append]; simp only [List.length_cons, List.length_nil]; omega
        · show (y.1 ++ [p]).length ≤ 16
          rw [List.length_append]; simp only [List.length_cons, List.length_nil]; omega
      · have ho : opb (b ++ [y]) = true := by rw [hop]; simp [c]
        rw [apM_open p ho, List.length_append, List.length_append]
        simp only [List.length_cons, List.length_nil]
        refine ⟨by omega, fun x hx => ?_⟩
        rw [List.getLast?_concat] at hx
        cases hx
        exact ⟨rfl, (by show 1 + _ = _; omega), (by show 0 < 1; decide), (by show 1 ≤ 16; decide)⟩
theorem rb_le {l : List PT} (h : l.length ≤ 300) : (l.foldl apM []).length ≤ 19 := by
  rw [(rb_inv l).1]; omega
def rb (l : List PT) : List BLK := l.foldl apM []
def mgA (S : SER) : List PT := gth S.2.2.2.2 0 2147483647 (mpts (unt S.2.2.2.1))
def aMerge (L : List SER) (i : Int32) : Int32 × List SER := match ser L i with
  | none => (-1, L)
  | some S => if 0 < tornN S.2.2.2.1 then (-4, L) else if 300 < (mgA S).length then (-5, L) else (nI (mgA S).length, L.set i.toNatClampNeg (setBL S (rb (mgA S), [])))
theorem tornN_le (bk : List BLK) : tornN bk ≤ bk.length := by
  unfold tornN
  induction bk with
  | nil => exact Nat.le_refl _
  | cons x l ih =>
    rw [List.map_cons, List.sum_cons, List.length_cons]
    split <;> omega
def csX6_merge : CS := (cs_c 0 38 2 6 sp_X6_seriesAt (cs_c 0 70 1 4 sp_X4_tornBlocks (cs_c 0 74 2 1 sp_X1_gatherAll (cs_c 0 81 3 4 sp_X4_rebuild cs_0))))
theorem csoX6_merge : ∀ op x na cl sp, csX6_merge op x = some (na, cl, sp) → CallOK 6 6 139 op x na cl sp := (cs_c_ok (caX6_merge_38 okX6_seriesAt) (cs_c_ok (caX6_merge_70 okX4_tornBlocks) (cs_c_ok (caX6_merge_74 okX1_gatherAll) (cs_c_ok (caX6_merge_81 okX4_rebuild) cs_0_ok))))
theorem xcX6_merge : (∀ (Q : QT) (G : GT) (pc : Nat) (L : LV) (a0 a1 : Value) (r : List Value) (M : HM) (k n : Nat), ex_i 6 3 1 false csX6_merge Q G (.invokevirtual 38) pc L (a1 :: a0 :: r) M k n = (e_rm r ∧ e_rc M 6 [a0, a1] ∧ sp_X6_seriesAt [a0, a1] M k n (fun v M' k' n' => G (pc + 3) L (v.toList ++ r) M' k' n'))) ∧ (∀ (Q : QT) (G : GT) (pc : Nat) (L : LV) (a0 : Value) (r : List Value) (M : HM) (k n : Nat), ex_i 6 3 1 false csX6_merge Q G (.invokevirtual 70) pc L (a0 :: r) M k n = (e_rm r ∧ e_rc M 4 [a0] ∧ sp_X4_tornBlocks [a0] M k n (fun v M' k' n' => G (pc + 3) L (v.toList ++ r) M' k' n'))) ∧ (∀ (Q : QT) (G : GT) (pc : Nat) (L : LV) (a0 a1 : Value) (r : List Value) (M : HM) (k n : Nat), ex_i 6 3 1 false csX6_merge Q G (.invokevirtual 74) pc L (a1 :: a0 :: r) M k n = (e_rm r ∧ e_rc M 1 [a0, a1] ∧ sp_X1_gatherAll [a0, a1] M k n (fun v M' k' n' => G (pc + 3) L (v.toList ++ r) M' k' n'))) ∧ (∀ (Q : QT) (G : GT) (pc : Nat) (L : LV) (a0 a1 a2 : Value) (r : List Value) (M : HM) (k n : Nat), ex_i 6 3 1 false csX6_merge Q G (.invokevirtual 81) pc L (a2 :: a1 :: a0 :: r) M k n = (e_rm r ∧ e_rc M 4 [a0, a1, a2] ∧ sp_X4_rebuild [a0, a1, a2] M k n (fun v M' k' n' => G (pc + 3) L (v.toList ++ r) M' k' n'))) := ⟨(fun _ _ _ _ _ _ _ _ _ _ => xv0_2 rfl), (fun _ _ _ _ _ _ _ _ _ => xv0_1 rfl), (fun _ _ _ _ _ _ _ _ _ _ => xv0_2 rfl), (fun _ _ _ _ _ _ _ _ _ _ _ => xv0_3 rfl)⟩
def sp_X6_merge : SP := fun as M k n Q => match as with
  | [.ref x, .int i] => ∃ O L sc ct tr m, NRep O M x L sc ct tr ∧ mK M m = 8 ∧ wf1 L ∧ 38 ≤ k ∧ 4560 ≤ n ∧ ∀ O' M', NRep O' M' x (aMerge L i).2 sc ct tr → Fr (SN m) O O' M M' → Q (some (.int (aMerge L i).1)) M' (k - 38) (n - 4560)
  | _ => False
theorem okX6_merge : OkX6_merge sp_X6_merge := by
  refine inX6_merge csoX6_merge ?_
  intro as M k n Q hsp
  unfold sp_X6_merge at hsp
  split at hsp
  rotate_left
  · exact hsp.elim
  rename_i x i
  obtain ⟨O, L, sc, ct, tr, m, hN, hm, hwf, hk, hn, hq⟩ := hsp
  have k0 := hN.1.1.1
  have kR := hN.1.1
  obtain ⟨z1, z2, z3, z4⟩ := hN.ks
  have hg := hN.2.2.2.2.1
  have gr := hN.1.1.2.2.1
  refine ⟨38, 4560, hk, hn, Nat.le_of_ble_eq_true rfl, fun G hG => ?_⟩
  unfold aMerge at hq
  rcases hN.sa i with ⟨h1, h2⟩ | ⟨i', S, h1, rfl, h3, h4, h5, h6⟩
  · rw [h1] at hq
    refine e_g2 hG [] 40 ?_
    simp only [e_wp_s, Option.getD_some, Option.isSome_some, Option.isSome_none, xis0, xis1, xis2, xis3, xis4, e_ks, lk_k, lk_c, List.lookup_nil, gt_c, vi_i, k1_n, k1_c, k2_n, k2_c, ar_n, ar_c, pk_n, pk_c, rm_0, rm_1, rm_2, rm_3, rm_4, rm_5, rc_9, rcs, fvs, rf_s, rf_n, isI_i, isL_l, isR_r, isR_n, isR_q, ct_i, ct_l, ct_r, ct_n, ct_q, tFs, tCs, tKs, tJs, tSs, e_nf, lgs, ↓reduceIte, true_and, and_true, false_and, and_false, or_true, true_or, false_or, or_false, Nat.reduceAdd, Nat.reduceEqDiff, Nat.reduceDiv, Nat.reduceLT, Nat.reduceLeDiff, Nat.zero_add, reduceCtorEq, Bool.false_eq_true, Option.toList_some, Option.toList_none, List.cons_append, List.nil_append, not_true_eq_false, not_false_eq_true, Nat.sub_zero, dsX6_merge, jsX6_merge, xcX6_merge, k0, kR, h2, ↓sp_X6_seriesAt]
    exact hq O M hN Fr.rf
  · simp only [h1, nI_clamp (show i' < 2 ^ 31 by omega)] at hq
    have s0 := h5.1.1.1
    have sR := h5.1.1
    obtain ⟨w1, w2, w3⟩ := hwf S (List.mem_of_getElem? h3)
    have hbl : S.2.2.2.1.length ≤ 300 := h5.2.2.2.1.2.1
    have htl := tornN_le S.2.2.2.1
    have hne : gA M x ≠ sA M x i' := fun e => by have := z4 i' S h3; rw [← e, z2] at this; cases this
    by_cases c1 : 0 < tornN S.2.2.2.1
    · rw [if_pos c1] at hq
      have e1 : (0 : Int32) < nI (tornN S.2.2.2.1) := nI_lt (a := 0) c1 (by omega)
      refine e_g2 hG [] 40 ?_
      simp only [e_wp_s, Option.getD_some, Option.isSome_some, Option.isSome_none, xis0, xis1, xis2, xis3, xis4, e_ks, lk_k, lk_c, List.lookup_nil, gt_c, vi_i, k1_n, k1_c, k2_n, k2_c, ar_n, ar_c, pk_n, pk_c, rm_0, rm_1, rm_2, rm_3, rm_4, rm_5, rc_9, rcs, fvs, rf_s, rf_n, isI_i, isL_l, isR_r, isR_n, isR_q, ct_i, ct_l, ct_r, ct_n, ct_q, tFs, tCs, tKs, tJs, tSs, e_nf, lgs, ↓reduceIte, true_and, and_true, false_and, and_false, or_true, true_or, false_or, or_false, Nat.reduceAdd, Nat.reduceEqDiff, Nat.reduceDiv, Nat.reduceLT, Nat.reduceLeDiff, Nat.zero_add, reduceCtorEq, Bool.false_eq_true, Option.toList_some, Option.toList_none, List.cons_append, List.nil_append, not_true_eq_false, not_false_eq_true, Nat.sub_zero, dsX6_merge, jsX6_merge, xcX6_merge, k0, kR, h4, s0, sR, ↓sp_X6_seriesAt, ↓sp_X4_tornBlocks]
      refine ⟨_, (SRep.BK h5).1, ?_⟩
      rw [SRep.tornN h5, if_pos e1]
      exact hq O M hN Fr.rf
    · rw [if_neg c1] at hq
      have e1 : ¬ (0 : Int32) < nI (tornN S.2.2.2.1) := fun z => c1 ((nI_ltI (a := 0) (by decide) (by omega)).mp z)
      refine e_g2 hG [(30, [0, 2])] 40 ?_
      simp only [e_wp_s, Option.getD_some, Option.isSome_some, Option.isSome_none, xis0, xis1, xis2, xis3, xis4, e_ks, lk_k, lk_c, List.lookup_nil, gt_c, vi_i, k1_n, k1_c, k2_n, k2_c, ar_n, ar_c, pk_n, pk_c, rm_0, rm_1, rm_2, rm_3, rm_4, rm_5, rc_9, rcs, fvs, rf_s, rf_n, isI_i, isL_l, isR_r, isR_n, isR_q, ct_i, ct_l, ct_r, ct_n, ct_q, tFs, tCs, tKs, tJs, tSs, e_nf, lgs, ↓reduceIte, true_and, and_true, false_and, and_false, or_true, true_or, false_or, or_false, Nat.reduceAdd, Nat.reduceEqDiff, Nat.reduceDiv, Nat.reduceLT, Nat.reduceLeDiff, Nat.zero_add, reduceCtorEq, Bool.false_eq_true, Option.toList_some, Option.toList_none, List.cons_append, List.nil_append, not_true_eq_false, not_false_eq_true, Nat.sub_zero, dsX6_merge, jsX6_merge, xcX6_merge, k0, kR, h4, s0, sR, gr, z2, ↓sp_X6_seriesAt, ↓sp_X4_tornBlocks]
      refine ⟨_, (SRep.BK h5).1, ?_⟩
      rw [SRep.tornN h5, if_neg e1]
      refine ⟨O, gA M x, _, _, _, _, _, hg, h5, hne, w2, fun M1 hP1 hF1 => ?_⟩
      have hN1 := hN.gat hF1 hP1.w
      have hb1 := hN.base hF1 (fun a o ho e => by
        have : x = gA M x := ho.symm.trans e
        rw [← this, z1] at z2; cases z2)
      have gr1 : mR M1 194 x = some (gA M x) := by rw [← hb1.2.2.2.1]; exact hN1.1.1.2.2.1
      have x1 := hN1.1.1.1
      have g1 := hP1.1.1
      have gc : mI M1 34 (gA M x) = nI (mgA S).length := hP1.2.2.1
      have gl : (mgA S).length ≤ 340 := hP1.2.2.2.1
      have hFm := fr_SN hF1 hm (by rw [z2]; decide)
      by_cases c2 : 300 < (mgA S).length
      · rw [if_pos c2] at hq
        have e2 : (300 : Int32) < nI (mgA S).length := nI_lt (a := 300) c2 (by omega)
        refine e_g2 hG [] 40 ?_
        simp only [e_wp_s, Option.getD_some, Option.isSome_some, Option.isSome_none, xis0, xis1, xis2, xis3, xis4, e_ks, lk_k, lk_c, List.lookup_nil, gt_c, vi_i, k1_n, k1_c, k2_n, k2_c, ar_n, ar_c, pk_n, pk_c, rm_0, rm_1, rm_2, rm_3, rm_4, rm_5, rc_9, rcs, fvs, rf_s, rf_n, isI_i, isL_l, isR_r, isR_n, isR_q, ct_i, ct_l, ct_r, ct_n, ct_q, tFs, tCs, tKs, tJs, tSs, e_nf, lgs, ↓reduceIte, true_and, and_true, false_and, and_false, or_true, true_or, false_or, or_false, Nat.reduceAdd, Nat.reduceEqDiff, Nat.reduceDiv, Nat.reduceLT, Nat.reduceLeDiff, Nat.zero_add, reduceCtorEq, Bool.false_eq_true, Option.toList_some, Option.toList_none, List.cons_append, List.nil_append, not_true_eq_false, not_false_eq_true, Nat.sub_zero, dsX6_merge, jsX6_merge, xcX6_merge, x1, gr1, g1, gc, e2]
        exact hq O M1 hN1 hFm
      · rw [if_neg c2] at hq
        have e2 : ¬ (300 : Int32) < nI (mgA S).length := nI_nlt (b := (mgA S).length) (a := 300) (by omega) (by decide)
        have hS1 := SRep.frm h5 hF1 (fun a o ho e => hne (e.symm.trans ho))
        have s1 := hS1.1.1.1
        have hrb := rb_le (show (mgA S).length ≤ 300 by omega)
        refine e_g2 hG [(55, [0, 2])] 40 ?_
        simp only [e_wp_s, Option.getD_some, Option.isSome_some, Option.isSome_none, xis0, xis1, xis2, xis3, xis4, e_ks, lk_k, lk_c, List.lookup_nil, gt_c, vi_i, k1_n, k1_c, k2_n, k2_c, ar_n, ar_c, pk_n, pk_c, rm_0, rm_1, rm_2, rm_3, rm_4, rm_5, rc_9, rcs, fvs, rf_s, rf_n, isI_i, isL_l, isR_r, isR_n, isR_q, ct_i, ct_l, ct_r, ct_n, ct_q, tFs, tCs, tKs, tJs, tSs, e_nf, lgs, ↓reduceIte, true_and, and_true, false_and, and_false, or_true, true_or, false_or, or_false, Nat.reduceAdd, Nat.reduceEqDiff, Nat.reduceDiv, Nat.reduceLT, Nat.reduceLeDiff, Nat.zero_add, reduceCtorEq, Bool.false_eq_true, Option.toList_some, Option.toList_none, List.cons_append, List.nil_append, not_true_eq_false, not_false_eq_true, Nat.sub_zero, dsX6_merge, jsX6_merge, xcX6_merge, x1, gr1, g1, gc, e2, s1]
        refine ⟨O, _, _, _, _, _, gA M x, mgA S, 0, hS1, hP1, hne, rfl, Nat.zero_le _, by omega, ?_, ?_, fun O2 M2 hS2 hF2 => ?_⟩
        · rw [List.drop_zero]; omega
        · rw [List.drop_zero]; omega
        · rw [List.drop_zero] at hS2
          have hP2 := hP1.frm hF2 (fun a o ho e => hne (ho.symm.trans e))
          have s2 := hS2.1.1.1
          have hr := SRep.r136 (sp' := S.2.2.1) (bk' := S.2.2.2.1) (lt' := []) (U := M2) hS2 ArX.rf (by decide) rfl
          have e0 : nI ([] : List PT).length = 0 := rfl
          rw [e0] at hr
          have hP3 := hP2.frm hr.2 (fun a o ho e => hne (ho.symm.trans e))
          have sA1 := hb1.2.2.2.2.2.1 i'
          have hFs : Fr (Ss (sA M x i')) O O2 M1 (sI M2 136 (sA M x i') 0) := hF2.tr hr.2
          have hN3 := hN1.mut (S' := setBL S (rb (mgA S), [])) h3 (by rw [sA1]; exact hFs) (by rw [sA1]; exact hr.1)
          have hb3 := hN1.base hFs (fun a o ho e => by
            have : x = sA M x i' := ho.symm.trans e
            rw [this, s0] at z1; cases z1)
          have x3 := hN3.1.1.1
          have gr3 : mR (sI M2 136 (sA M x i') 0) 194 x = some (gA M x) := by rw [← hb1.2.2.2.1, ← hb3.2.2.2.1]; exact hN3.1.1.2.2.1
          have g3 := hP3.1.1
          have gc3 : mI (sI M2 136 (sA M x i') 0) 34 (gA M x) = nI (mgA S).length := hP3.2.2.1
          refine e_g2 hG [(60, [0, 2])] 40 ?_
          simp only [e_wp_s, Option.getD_some, Option.isSome_some, Option.isSome_none, xis0, xis1, xis2, xis3, xis4, e_ks, lk_k, lk_c, List.lookup_nil, gt_c, vi_i, k1_n, k1_c, k2_n, k2_c, ar_n, ar_c, pk_n, pk_c, rm_0, rm_1, rm_2, rm_3, rm_4, rm_5, rc_9, rcs, fvs, rf_s, rf_n, isI_i, isL_l, isR_r, isR_n, isR_q, ct_i, ct_l, ct_r, ct_n, ct_q, tFs, tCs, tKs, tJs, tSs, e_nf, lgs, ↓reduceIte, true_and, and_true, false_and, and_false, or_true, true_or, false_or, or_false, Nat.reduceAdd, Nat.reduceEqDiff, Nat.reduceDiv, Nat.reduceLT, Nat.reduceLeDiff, Nat.zero_add, reduceCtorEq, Bool.false_eq_true, Option.toList_some, Option.toList_none, List.cons_append, List.nil_append, not_true_eq_false, not_false_eq_true, Nat.sub_zero, dsX6_merge, jsX6_merge, xcX6_merge, s2]
          generalize sI M2 136 (sA M x i') 0 = W at *
          refine e_g2 hG [] 40 ?_
          simp only [e_wp_s, Option.getD_some, Option.isSome_some, Option.isSome_none, xis0, xis1, xis2, xis3, xis4, e_ks, lk_k, lk_c, List.lookup_nil, gt_c, vi_i, k1_n, k1_c, k2_n, k2_c, ar_n, ar_c, pk_n, pk_c, rm_0, rm_1, rm_2, rm_3, rm_4, rm_5, rc_9, rcs, fvs, rf_s, rf_n, isI_i, isL_l, isR_r, isR_n, isR_q, ct_i, ct_l, ct_r, ct_n, ct_q, tFs, tCs, tKs, tJs, tSs, e_nf, lgs, ↓reduceIte, true_and, and_true, false_and, and_false, or_true, true_or, false_or, or_false, Nat.reduceAdd, Nat.reduceEqDiff, Nat.reduceDiv, Nat.reduceLT, Nat.reduceLeDiff, Nat.zero_add, reduceCtorEq, Bool.false_eq_true, Option.toList_some, Option.toList_none, List.cons_append, List.nil_append, not_true_eq_false, not_false_eq_true, Nat.sub_zero, dsX6_merge, jsX6_merge, xcX6_merge, x3, gr3, g3, gc3]
          exact hq O2 W hN3 (hFm.tr (fr_SN hFs (SN.k hFm hm) (by rw [hS1.1.1.1]; decide)))
def thS (S : SER) (t w : Int32) : SER := (S.1, S.2.1, ((mgA S).take (lbl t (mgA S))).foldl (adS w) S.2.2.1, rb ((mgA S).drop (lbl t (mgA S))), S.2.2.2.2)
def aThin (L : List SER) (i t w : Int32) : Int32 × List SER := match ser L i with
  | none => (-1, L)
  | some S => if w < 1 ∨ 1000000 < w ∨ ¬ (¬ t < 0 ∧ ¬ 1000000000 < t) ∨ ¬ t - t / w * w = 0 ∨ t < sEnd S.2.2.1 ∨ ¬ sEnd S.2.2.1 - sEnd S.2.2.1 / w * w = 0 then (-2, L)
    else if 0 < S.2.2.2.2.length ∨ 0 < tornN S.2.2.2.1 then (-4, L)
    else if 60 < S.2.2.1.length + strN w ((mgA S).take (lbl t (mgA S))) then (-5, L)
    else (nI (((mgA S).take (lbl t (mgA S))).foldl (adS w) S.2.2.1).length, L.set i.toNatClampNeg (thS S t w))
def csX6_thin : CS := (cs_c 0 38 2 6 sp_X6_seriesAt (cs_c 2 88 1 9 sp_X6_isTime (cs_c 0 91 1 4 sp_X4_spansEnd (cs_c 0 70 1 4 sp_X4_tornBlocks (cs_c 0 74 2 1 sp_X1_gatherAll (cs_c 0 94 2 1 sp_X1_sizeBelow (cs_c 0 100 3 1 sp_X1_stretches (cs_c 0 104 4 4 sp_X4_addSpans (cs_c 0 81 3 4 sp_X4_rebuild cs_0)))))))))
theorem csoX6_thin : ∀ op x na cl sp, csX6_thin op x = some (na, cl, sp) → CallOK 6 6 139 op x na cl sp := (cs_c_ok (caX6_thin_38 okX6_seriesAt) (cs_c_ok (caX6_thin_88 okX6_isTime) (cs_c_ok (caX6_thin_91 okX4_spansEnd) (cs_c_ok (caX6_thin_70 okX4_tornBlocks) (cs_c_ok (caX6_thin_74 okX1_gatherAll) (cs_c_ok (caX6_thin_94 okX1_sizeBelow) (cs_c_ok (caX6_thin_100 okX1_stretches) (cs_c_ok (caX6_thin_104 okX4_addSpans) (cs_c_ok (caX6_thin_81 okX4_rebuild) cs_0_ok)))))))))
theorem xcX6_thin : (∀ (Q : QT) (G : GT) (pc : Nat) (L : LV) (a0 a1 : Value) (r : List Value) (M : HM) (k n : Nat), ex_i 6 6 1 false csX6_thin Q G (.invokevirtual 38) pc L (a1 :: a0 :: r) M k n = (e_rm r ∧ e_rc M 6 [a0, a1] ∧ sp_X6_seriesAt [a0, a1] M k n (fun v M' k' n' => G (pc + 3) L (v.toList ++ r) M' k' n'))) ∧ (∀ (Q : QT) (G : GT) (pc : Nat) (L : LV) (a0 : Value) (r : List Value) (M : HM) (k n : Nat), ex_i 6 6 1 false csX6_thin Q G (.invokestatic 88) pc L (a0 :: r) M k n = (e_rm r ∧ e_rc M 9 [a0] ∧ sp_X6_isTime [a0] M k n (fun v M' k' n' => G (pc + 3) L (v.toList ++ r) M' k' n'))) ∧ (∀ (Q : QT) (G : GT) (pc : Nat) (L : LV) (a0 : Value) (r : List Value) (M : HM) (k n : Nat), ex_i 6 6 1 false csX6_thin Q G (.invokevirtual 91) pc L (a0 :: r) M k n = (e_rm r ∧ e_rc M 4 [a0] ∧ sp_X4_spansEnd [a0] M k n (fun v M' k' n' => G (pc + 3) L (v.toList ++ r) M' k' n'))) ∧ (∀ (Q : QT) (G : GT) (pc : Nat) (L : LV) (a0 : Value) (r : List Value) (M : HM) (k n : Nat), ex_i 6 6 1 false csX6_thin Q G (.invokevirtual 70) pc L (a0 :: r) M k n = (e_rm r ∧ e_rc M 4 [a0] ∧ sp_X4_tornBlocks [a0] M k n (fun v M' k' n' => G (pc + 3) L (v.toList ++ r) M' k' n'))) ∧ (∀ (Q : QT) (G : GT) (pc : Nat) (L : LV) (a0 a1 : Value) (r : List Value) (M : HM) (k n : Nat), ex_i 6 6 1 false csX6_thin Q G (.invokevirtual 74) pc L (a1 :: a0 :: r) M k n = (e_rm r ∧ e_rc M 1 [a0, a1] ∧ sp_X1_gatherAll [a0, a1] M k n (fun v M' k' n' => G (pc + 3) L (v.toList ++ r) M' k' n'))) ∧ (∀ (Q : QT) (G : GT) (pc : Nat) (L : LV) (a0 a1 : Value) (r : List Value) (M : HM) (k n : Nat), ex_i 6 6 1 false csX6_thin Q G (.invokevirtual 94) pc L (a1 :: a0 :: r) M k n = (e_rm r ∧ e_rc M 1 [a0, a1] ∧ sp_X1_sizeBelow [a0, a1] M k n (fun v M' k' n' => G (pc + 3) L (v.toList ++ r) M' k' n'))) ∧ (∀ (Q : QT) (G : GT) (pc : Nat) (L : LV) (a0 a1 a2 : Value) (r : List Value) (M : HM) (k n : Nat), ex_i 6 6 1 false csX6_thin Q G (.invokevirtual 100) pc L (a2 :: a1 :: a0 :: r) M k n = (e_rm r ∧ e_rc M 1 [a0, a1, a2] ∧ sp_X1_stretches [a0, a1, a2] M k n (fun v M' k' n' => G (pc + 3) L (v.toList ++ r) M' k' n'))) ∧ (∀ (Q : QT) (G : GT) (pc : Nat) (L : LV) (a0 a1 a2 a3 : Value) (r : List Value) (M : HM) (k n : Nat), ex_i 6 6 1 false csX6_thin Q G (.invokevirtual 104) pc L (a3 :: a2 :: a1 :: a0 :: r) M k n = (e_rm r ∧ e_rc M 4 [a0, a1, a2, a3] ∧ sp_X4_addSpans [a0, a1, a2, a3] M k n (fun v M' k' n' => G (pc + 3) L (v.toList ++ r) M' k' n'))) ∧ (∀ (Q : QT) (G : GT) (pc : Nat) (L : LV) (a0 a1 a2 : Value) (r : List Value) (M : HM) (k n : Nat), ex_i 6 6 1 false csX6_thin Q G (.invokevirtual 81) pc L (a2 :: a1 :: a0 :: r) M k n = (e_rm r ∧ e_rc M 4 [a0, a1, a2] ∧ sp_X4_rebuild [a0, a1, a2] M k n (fun v M' k' n' => G (pc + 3) L (v.toList ++ r) M' k' n'))) := ⟨(fun _ _ _ _ _ _ _ _ _ _ => xv0_2 rfl), (fun _ _ _ _ _ _ _ _ _ => xv2_1 rfl), (fun _ _ _ _ _ _ _ _ _ => xv0_1 rfl), (fun _ _ _ _ _ _ _ _ _ => xv0_1 rfl), (fun _ _ _ _ _ _ _ _ _ _ => xv0_2 rfl), (fun _ _ _ _ _ _ _ _ _ _ => xv0_2 rfl), (fun _ _ _ _ _ _ _ _ _ _ _ => xv0_3 rfl), (fun _ _ _ _ _ _ _ _ _ _ _ _ => xv0_4 rfl), (fun _ _ _ _ _ _ _ _ _ _ _ => xv0_3 rfl)⟩
def sp_X6_thin : SP := fun as M k n Q => match as with
  | [.ref x, .int i, .int t, .int w] => ∃ O L sc ct tr m, NRep O M x L sc ct tr ∧ mK M m = 8 ∧ wf1 L ∧ (∀ S, ser L i = some S → S.2.2.2.2 = [] → tornN S.2.2.2.1 = 0 → ¬ t < sEnd S.2.2.1 → ¬ w < 1 → sEnd S.2.2.1 - sEnd S.2.2.1 / w * w = 0 → S.2.2.1.length + strN w ((mgA S).take (lbl t (mgA S))) = (((mgA S).take (lbl t (mgA S))).foldl (adS w) S.2.2.1).length ∧ (mgA S).length ≤ 300) ∧ 98 ≤ k ∧ 5040 ≤ n ∧ ∀ O' M', NRep O' M' x (aThin L i t w).2 sc ct tr → Fr (SN m) O O' M M' → Q (some (.int (aThin L i t w).1)) M' (k - 98) (n - 5040)
  | _ => False
theorem strN_le (w : Int32) : ∀ l : List PT, strN w l ≤ l.length
  | [] => Nat.le_refl _
  | p :: l => by
    have key : ∀ (l : List PT) p, stp w p l ≤ l.length := by
      intro l
      induction l with
      | nil => intro p; exact Nat.le_refl _
      | cons q l ih =>
        intro p
        rw [stp, List.length_cons]
        have := ih q
        split <;> omega
    have := key l p
    rw [strN, List.length_cons]
    omega
set_option maxRecDepth 4000 in
theorem okX6_thin : OkX6_thin sp_X6_thin := by
  refine inX6_thin csoX6_thin ?_
  intro as M k n Q hsp
  unfold sp_X6_thin at hsp
  split at hsp
  rotate_left
  · exact hsp.elim
  rename_i x i t w
  obtain ⟨O, L, sc, ct, tr, m, hN, hm, hwf, hth, hk, hn, hq⟩ := hsp
  have k0 := hN.1.1.1
  have kR := hN.1.1
  obtain ⟨z1, z2, z3, z4⟩ := hN.ks
  have hg := hN.2.2.2.2.1
  have gr := hN.1.1.2.2.1
  refine ⟨98, 5040, hk, hn, Nat.le_of_ble_eq_true rfl, fun G hG => ?_⟩
  unfold aThin at hq
  rcases hN.sa i with ⟨h1, h2⟩ | ⟨i', S, h1, rfl, h3, h4, h5, h6⟩
  · rw [h1] at hq
    refine e_g2 hG [] 40 ?_
    simp only [e_wp_s, Option.getD_some, Option.isSome_some, Option.isSome_none, xis0, xis1, xis2, xis3, xis4, e_ks, lk_k, lk_c, List.lookup_nil, gt_c, vi_i, k1_n, k1_c, k2_n, k2_c, ar_n, ar_c, pk_n, pk_c, rm_0, rm_1, rm_2, rm_3, rm_4, rm_5, rc_9, rcs, fvs, rf_s, rf_n, isI_i, isL_l, isR_r, isR_n, isR_q, ct_i, ct_l, ct_r, ct_n, ct_q, tFs, tCs, tKs, tJs, tSs, e_nf, lgs, ↓reduceIte, true_and, and_true, false_and, and_false, or_true, true_or, false_or, or_false, Nat.reduceAdd, Nat.reduceEqDiff, Nat.reduceDiv, Nat.reduceLT, Nat.reduceLeDiff, Nat.zero_add, reduceCtorEq, Bool.false_eq_true, Option.toList_some, Option.toList_none, List.cons_append, List.nil_append, not_true_eq_false, not_false_eq_true, Nat.sub_zero, dsX6_thin, jsX6_thin, xcX6_thin, k0, kR, h2, ↓sp_X6_seriesAt]
    exact hq O M hN Fr.rf
  · simp only [h1, nI_clamp (show i' < 2 ^ 31 by omega)] at hq
    have hth := hth S h1
    have s0 := h5.1.1.1
    have sR := h5.1.1
    obtain ⟨hse, hs6⟩ := SRep.se h5
    obtain ⟨w1, w2, w3⟩ := hwf S (List.mem_of_getElem? h3)
    have hbl : S.2.2.2.1.length ≤ 300 := h5.2.2.2.1.2.1
    have htl := tornN_le S.2.2.2.1
    have hne : gA M x ≠ sA M x i' := fun e => by have := z4 i' S h3; rw [← e, z2] at this; cases this
    by_cases c1 : w < 1
    · rw [if_pos (Or.inl c1)] at hq
      refine e_g2 hG [] 60 ?_
      simp only [e_wp_s, Option.getD_some, Option.isSome_some, Option.isSome_none, xis0, xis1, xis2, xis3, xis4, e_ks, lk_k, lk_c, List.lookup_nil, gt_c, vi_i, k1_n, k1_c, k2_n, k2_c, ar_n, ar_c, pk_n, pk_c, rm_0, rm_1, rm_2, rm_3, rm_4, rm_5, rc_9, rcs, fvs, rf_s, rf_n, isI_i, isL_l, isR_r, isR_n, isR_q, ct_i, ct_l, ct_r, ct_n, ct_q, tFs, tCs, tKs, tJs, tSs, e_nf, lgs, ↓reduceIte, true_and, and_true, false_and, and_false, or_true, true_or, false_or, or_false, Nat.reduceAdd, Nat.reduceEqDiff, Nat.reduceDiv, Nat.reduceLT, Nat.reduceLeDiff, Nat.zero_add, reduceCtorEq, Bool.false_eq_true, Option.toList_some, Option.toList_none, List.cons_append, List.nil_append, not_true_eq_false, not_false_eq_true, Nat.sub_zero, dsX6_thin, jsX6_thin, xcX6_thin, k0, kR, h4, c1, ↓sp_X6_seriesAt]
      exact hq O M hN Fr.rf
    by_cases c2 : 1000000 < w
    · rw [if_pos (Or.inr (Or.inl c2))] at hq
      refine e_g2 hG [] 60 ?_
      simp only [e_wp_s, Option.getD_some, Option.isSome_some, Option.isSome_none, xis0, xis1, xis2, xis3, xis4, e_ks, lk_k, lk_c, List.lookup_nil, gt_c, vi_i, k1_n, k1_c, k2_n, k2_c, ar_n, ar_c, pk_n, pk_c, rm_0, rm_1, rm_2, rm_3, rm_4, rm_5, rc_9, rcs, fvs, rf_s, rf_n, isI_i, isL_l, isR_r, isR_n, isR_q, ct_i, ct_l, ct_r, ct_n, ct_q, tFs, tCs, tKs, tJs, tSs, e_nf, lgs, ↓reduceIte, true_and, and_true, false_and, and_false, or_true, true_or, false_or, or_false, Nat.reduceAdd, Nat.reduceEqDiff, Nat.reduceDiv, Nat.reduceLT, Nat.reduceLeDiff, Nat.zero_add, reduceCtorEq, Bool.false_eq_true, Option.toList_some, Option.toList_none, List.cons_append, List.nil_append, not_true_eq_false, not_false_eq_true, Nat.sub_zero, dsX6_thin, jsX6_thin, xcX6_thin, k0, kR, h4, c1, c2, ↓sp_X6_seriesAt]
      exact hq O M hN Fr.rf
    have hw0 : ¬ w = 0 := fun e => c1 (by rw [e]; decide)
    by_cases c3 : ¬ t < 0 ∧ ¬ 1000000000 < t
    · by_cases c4 : t - t / w * w = 0
      · by_cases c5 : t < sEnd S.2.2.1
        · rw [if_pos (Or.inr (Or.inr (Or.inr (Or.inr (Or.inl c5)))))] at hq
          refine e_g2 hG [] 60 ?_
          simp only [e_wp_s, Option.getD_some, Option.isSome_some, Option.isSome_none, xis0, xis1, xis2, xis3, xis4, e_ks, lk_k, lk_c, List.lookup_nil, gt_c, vi_i, k1_n, k1_c, k2_n, k2_c, ar_n, ar_c, pk_n, pk_c, rm_0, rm_1, rm_2, rm_3, rm_4, rm_5, rc_9, rcs, fvs, rf_s, rf_n, isI_i, isL_l, isR_r, isR_n, isR_q, ct_i, ct_l, ct_r, ct_n, ct_q, tFs, tCs, tKs, tJs, tSs, e_nf, lgs, ↓reduceIte, true_and, and_true, false_and, and_false, or_true, true_or, false_or, or_false, Nat.reduceAdd, Nat.reduceEqDiff, Nat.reduceDiv, Nat.reduceLT, Nat.reduceLeDiff, Nat.zero_add, reduceCtorEq, Bool.false_eq_true, Option.toList_some, Option.toList_none, List.cons_append, List.nil_append, not_true_eq_false, not_false_eq_true, Nat.sub_zero, dsX6_thin, jsX6_thin, xcX6_thin, k0, kR, h4, s0, sR, c1, c2, c3, c4, c5, hw0, hse, i10, ↓sp_X6_seriesAt, ↓sp_X6_isTime, ↓sp_X4_spansEnd]
          exact ⟨hs6, hq O M hN Fr.rf⟩
        · by_cases c6 : sEnd S.2.2.1 - sEnd S.2.2.1 / w * w = 0
          · rw [if_neg (fun z => by
              rcases z with z | z | z | z | z | z
              · exact c1 z
              · exact c2 z
              · exact z c3
              · exact z c4
              · exact c5 z
              · exact z c6)] at hq
            have sl : mI M 136 (sA M x i') = nI S.2.2.2.2.length := h5.2.2.2.2.1
            have l40 : S.2.2.2.2.length ≤ 40 := h5.2.2.2.2.2.1
            have main : G 63 [(0, .ref x), (2, .int t), (3, .int w), (4, .ref (sA M x i'))] [] M 98 5040 := by
              by_cases c7 : 0 < S.2.2.2.2.length
              · rw [if_pos (Or.inl c7)] at hq
                have e1 : (0 : Int32) < nI S.2.2.2.2.length := nI_lt (a := 0) c7 (by omega)
                refine e_g2 hG [] 60 ?_
                simp only [e_wp_s, Option.getD_some, Option.isSome_some, Option.isSome_none, xis0, xis1, xis2, xis3, xis4, e_ks, lk_k, lk_c, List.lookup_nil, gt_c, vi_i, k1_n, k1_c, k2_n, k2_c, ar_n, ar_c, pk_n, pk_c, rm_0, rm_1, rm_2, rm_3, rm_4, rm_5, rc_9, rcs, fvs, rf_s, rf_n, isI_i, isL_l, isR_r, isR_n, isR_q, ct_i, ct_l, ct_r, ct_n, ct_q, tFs, tCs, tKs, tJs, tSs, e_nf, lgs, ↓reduceIte, true_and, and_true, false_and, and_false, or_true, true_or, false_or, or_false, Nat.reduceAdd, Nat.reduceEqDiff, Nat.reduceDiv, Nat.reduceLT, Nat.reduceLeDiff, Nat.zero_add, reduceCtorEq, Bool.false_eq_true, Option.toList_some, Option.toList_none, List.cons_append, List.nil_append, not_true_eq_false, not_false_eq_true, Nat.sub_zero, dsX6_thin, jsX6_thin, xcX6_thin, s0, sl, e1]
                exact hq O M hN Fr.rf
              have e1 : ¬ (0 : Int32) < nI S.2.2.2.2.length := fun z => c7 ((nI_ltI (a := 0) (by decide) (by omega)).mp z)
              by_cases c8 : 0 < tornN S.2.2.2.1
              · rw [if_pos (Or.inr c8)] at hq
                have e2 : (0 : Int32) < nI (tornN S.2.2.2.1) := nI_lt (a := 0) c8 (by omega)
                refine e_g2 hG [] 60 ?_
                simp only [e_wp_s, Option.getD_some, Option.isSome_some, Option.isSome_none, xis0, xis1, xis2, xis3, xis4, e_ks, lk_k, lk_c, List.lookup_nil, gt_c, vi_i, k1_n, k1_c, k2_n, k2_c, ar_n, ar_c, pk_n, pk_c, rm_0, rm_1, rm_2, rm_3, rm_4, rm_5, rc_9, rcs, fvs, rf_s, rf_n, isI_i, isL_l, isR_r, isR_n, isR_q, ct_i, ct_l, ct_r, ct_n, ct_q, tFs, tCs, tKs, tJs, tSs, e_nf, lgs, ↓reduceIte, true_and, and_true, false_and, and_false, or_true, true_or, false_or, or_false, Nat.reduceAdd, Nat.reduceEqDiff, Nat.reduceDiv, Nat.reduceLT, Nat.reduceLeDiff, Nat.zero_add, reduceCtorEq, Bool.false_eq_true, Option.toList_some, Option.toList_none, List.cons_append, List.nil_append, not_true_eq_false, not_false_eq_true, Nat.sub_zero, dsX6_thin, jsX6_thin, xcX6_thin, s0, sR, sl, e1, ↓sp_X4_tornBlocks]
                refine ⟨_, (SRep.BK h5).1, ?_⟩
                rw [SRep.tornN h5, if_pos e2]
                exact hq O M hN Fr.rf
              have e2 : ¬ (0 : Int32) < nI (tornN S.2.2.2.1) := fun z => c8 ((nI_ltI (a := 0) (by decide) (by omega)).mp z)
              rw [if_neg (fun z => z.elim c7 c8)] at hq
              obtain ⟨hT1, hT2⟩ := hth (List.length_eq_zero_iff.mp (by omega)) (by omega) c5 c1 c6
              refine e_g2 hG [(91, [0, 2, 3, 4])] 60 ?_
              simp only [e_wp_s, Option.getD_some, Option.isSome_some, Option.isSome_none, xis0, xis1, xis2, xis3, xis4, e_ks, lk_k, lk_c, List.lookup_nil, gt_c, vi_i, k1_n, k1_c, k2_n, k2_c, ar_n, ar_c, pk_n, pk_c, rm_0, rm_1, rm_2, rm_3, rm_4, rm_5, rc_9, rcs, fvs, rf_s, rf_n, isI_i, isL_l, isR_r, isR_n, isR_q, ct_i, ct_l, ct_r, ct_n, ct_q, tFs, tCs, tKs, tJs, tSs, e_nf, lgs, ↓reduceIte, true_and, and_true, false_and, and_false, or_true, true_or, false_or, or_false, Nat.reduceAdd, Nat.reduceEqDiff, Nat.reduceDiv, Nat.reduceLT, Nat.reduceLeDiff, Nat.zero_add, reduceCtorEq, Bool.false_eq_true, Option.toList_some, Option.toList_none, List.cons_append, List.nil_append, not_true_eq_false, not_false_eq_true, Nat.sub_zero, dsX6_thin, jsX6_thin, xcX6_thin, k0, gr, z2, s0, sR, sl, e1, ↓sp_X4_tornBlocks]
              refine ⟨_, (SRep.BK h5).1, ?_⟩
              rw [SRep.tornN h5, if_neg e2]
              refine ⟨O, gA M x, _, _, _, _, _, hg, h5, hne, w2, fun M1 hP1 hF1 => ?_⟩
              have hN1 := hN.gat hF1 hP1.w
              have hb1 := hN.base hF1 (fun a o ho e => by
                have : x = gA M x := ho.symm.trans e
                rw [← this, z1] at z2; cases z2)
              have gr1 : mR M1 194 x = some (gA M x) := by rw [← hb1.2.2.2.1]; exact hN1.1.1.2.2.1
              have x1 := hN1.1.1.1
              have g1 := hP1.1.1
              have hFm := fr_SN hF1 hm (by rw [z2]; decide)
              have hS1 := SRep.frm h5 hF1 (fun a o ho e => hne (e.symm.trans ho))
              have s1 := hS1.1.1.1
              have ss1 : mI M1 131 (sA M x i') = nI S.2.2.1.length := hS1.2.2.1.1
              have h60 : S.2.2.1.length ≤ 60 := hS1.2.2.1.2.1
              have hGP : GP O M1 (gA M x) (gA M x) (mgA S) := hP1
              have hle := lbl_le t (mgA S)
              have gl : (mgA S).length ≤ 340 := hGP.2.2.2.1
              have hsn := strN_le w ((mgA S).take (lbl t (mgA S)))
              rw [List.length_take] at hsn
              refine e_g2 hG [(99, [0, 2, 3, 4])] 60 ?_
              simp only [e_wp_s, Option.getD_some, Option.isSome_some, Option.isSome_none, xis0, xis1, xis2, xis3, xis4, e_ks, lk_k, lk_c, List.lookup_nil, gt_c, vi_i, k1_n, k1_c, k2_n, k2_c, ar_n, ar_c, pk_n, pk_c, rm_0, rm_1, rm_2, rm_3, rm_4, rm_5, rc_9, rcs, fvs, rf_s, rf_n, isI_i, isL_l, isR_r, isR_n, isR_q, ct_i, ct_l, ct_r, ct_n, ct_q, tFs, tCs, tKs, tJs, tSs, e_nf, lgs, ↓reduceIte, true_and, and_true, false_and, and_false, or_true, true_or, false_or, or_false, Nat.reduceAdd, Nat.reduceEqDiff, Nat.reduceDiv, Nat.reduceLT, Nat.reduceLeDiff, Nat.zero_add, reduceCtorEq, Bool.false_eq_true, Option.toList_some, Option.toList_none, List.cons_append, List.nil_append, not_true_eq_false, not_false_eq_true, Nat.sub_zero, dsX6_thin, jsX6_thin, xcX6_thin, x1, gr1, g1, ↓sp_X1_sizeBelow]
              refine ⟨O, gA M x, mgA S, hGP, ?_⟩
              refine e_g2 hG [(116, [0, 2, 3, 4, 5])] 60 ?_
              simp only [e_wp_s, Option.getD_some, Option.isSome_some, Option.isSome_none, xis0, xis1, xis2, xis3, xis4, e_ks, lk_k, lk_c, List.lookup_nil, gt_c, vi_i, k1_n, k1_c, k2_n, k2_c, ar_n, ar_c, pk_n, pk_c, rm_0, rm_1, rm_2, rm_3, rm_4, rm_5, rc_9, rcs, fvs, rf_s, rf_n, isI_i, isL_l, isR_r, isR_n, isR_q, ct_i, ct_l, ct_r, ct_n, ct_q, tFs, tCs, tKs, tJs, tSs, e_nf, lgs, ↓reduceIte, true_and, and_true, false_and, and_false, or_true, true_or, false_or, or_false, Nat.reduceAdd, Nat.reduceEqDiff, Nat.reduceDiv, Nat.reduceLT, Nat.reduceLeDiff, Nat.zero_add, reduceCtorEq, Bool.false_eq_true, Option.toList_some, Option.toList_none, List.cons_append, List.nil_append, not_true_eq_false, not_false_eq_true, Nat.sub_zero, dsX6_thin, jsX6_thin, xcX6_thin, x1, gr1, g1, s1, ss1, ↓sp_X1_stretches]
              refine ⟨O, gA M x, mgA S, _, hGP, rfl, hle, c1, ?_⟩
              by_cases c9 : 60 < S.2.2.1.length + strN w ((mgA S).take (lbl t (mgA S)))
              · rw [if_pos c9] at hq
                have e3 : (60 : Int32) < nI (S.2.2.1.length + strN w ((mgA S).take (lbl t (mgA S)))) := nI_lt (a := 60) c9 (by omega)
                refine e_g2 hG [] 60 ?_
                simp only [e_wp_s, Option.getD_some, Option.isSome_some, Option.isSome_none, xis0, xis1, xis2, xis3, xis4, e_ks, lk_k, lk_c, List.lookup_nil, gt_c, vi_i, k1_n, k1_c, k2_n, k2_c, ar_n, ar_c, pk_n, pk_c, rm_0, rm_1, rm_2, rm_3, rm_4, rm_5, rc_9, rcs, fvs, rf_s, rf_n, isI_i, isL_l, isR_r, isR_n, isR_q, ct_i, ct_l, ct_r, ct_n, ct_q, tFs, tCs, tKs, tJs, tSs, e_nf, lgs, ↓reduceIte, true_and, and_true, false_and, and_false, or_true, true_or, false_or, or_false, Nat.reduceAdd, Nat.reduceEqDiff, Nat.reduceDiv, Nat.reduceLT, Nat.reduceLeDiff, Nat.zero_add, reduceCtorEq, Bool.false_eq_true, Option.toList_some, Option.toList_none, List.cons_append, List.nil_append, not_true_eq_false, not_false_eq_true, Nat.sub_zero, dsX6_thin, jsX6_thin, xcX6_thin, nI_add, e3]
                exact hq O M1 hN1 hFm
              · rw [if_neg c9] at hq
                have e3 : ¬ (60 : Int32) < nI (S.2.2.1.length + strN w ((mgA S).take (lbl t (mgA S)))) := nI_nlt (a := 60) (by omega) (by decide)
                have hfl := fold_lenS w ((mgA S).take (lbl t (mgA S))) S.2.2.1
                have hrb := rb_le (l := (mgA S).drop (lbl t (mgA S))) (by rw [List.length_drop]; omega)
                refine e_g2 hG [(137, [0, 2, 3, 4, 5])] 60 ?_
                simp only [e_wp_s, Option.getD_some, Option.isSome_some, Option.isSome_none, xis0, xis1, xis2, xis3, xis4, e_ks, lk_k, lk_c, List.lookup_nil, gt_c, vi_i, k1_n, k1_c, k2_n, k2_c, ar_n, ar_c, pk_n, pk_c, rm_0, rm_1, rm_2, rm_3, rm_4, rm_5, rc_9, rcs, fvs, rf_s, rf_n, isI_i, isL_l, isR_r, isR_n, isR_q, ct_i, ct_l, ct_r, ct_n, ct_q, tFs, tCs, tKs, tJs, tSs, e_nf, lgs, ↓reduceIte, true_and, and_true, false_and, and_false, or_true, true_or, false_or, or_false, Nat.reduceAdd, Nat.reduceEqDiff, Nat.reduceDiv, Nat.reduceLT, Nat.reduceLeDiff, Nat.zero_add, reduceCtorEq, Bool.false_eq_true, Option.toList_some, Option.toList_none, List.cons_append, List.nil_append, not_true_eq_false, not_false_eq_true, Nat.sub_zero, dsX6_thin, jsX6_thin, xcX6_thin, nI_add, e3, x1, gr1, s1]
                refine ⟨O, _, _, _, _, _, gA M x, mgA S, _, hS1, hGP, hne, rfl, hle, c1, w3, by omega, by omega, by omega, fun O2 M2 hS2 hF2 => ?_⟩
                have hP2 := hGP.frm hF2 (fun a o ho e => hne (ho.symm.trans e))
                have s2 := hS2.1.1.1
                have sA1 := hb1.2.2.2.2.2.1 i'
                have hN2 := hN1.mut (S' := (S.1, S.2.1, ((mgA S).take (lbl t (mgA S))).foldl (adS w) S.2.2.1, S.2.2.2)) h3 (by rw [sA1]; exact hF2) (by rw [sA1]; exact hS2)
                have hb2 := hN1.base hF2 (fun a o ho e => by
                  have : x = sA M x i' := ho.symm.trans e
                  rw [this, s0] at z1; cases z1)
                have x2 := hN2.1.1.1
                have gr2 : mR M2 194 x = some (gA M x) := by rw [← hb1.2.2.2.1, ← hb2.2.2.2.1]; exact hN2.1.1.2.2.1
                refine e_g2 hG [(148, [0, 4])] 60 ?_
                simp only [e_wp_s, Option.getD_some, Option.isSome_some, Option.isSome_none, xis0, xis1, xis2, xis3, xis4, e_ks, lk_k, lk_c, List.lookup_nil, gt_c, vi_i, k1_n, k1_c, k2_n, k2_c, ar_n, ar_c, pk_n, pk_c, rm_0, rm_1, rm_2, rm_3, rm_4, rm_5, rc_9, rcs, fvs, rf_s, rf_n, isI_i, isL_l, isR_r, isR_n, isR_q, ct_i, ct_l, ct_r, ct_n, ct_q, tFs, tCs, tKs, tJs, tSs, e_nf, lgs, ↓reduceIte, true_and, and_true, false_and, and_false, or_true, true_or, false_or, or_false, Nat.reduceAdd, Nat.reduceEqDiff, Nat.reduceDiv, Nat.reduceLT, Nat.reduceLeDiff, Nat.zero_add, reduceCtorEq, Bool.false_eq_true, Option.toList_some, Option.toList_none, List.cons_append, List.nil_append, not_true_eq_false, not_false_eq_true, Nat.sub_zero, dsX6_thin, jsX6_thin, xcX6_thin, x2, gr2, s2]
                refine ⟨O2, _, _, _, _, _, gA M x, mgA S, _, hS2, hP2, hne, rfl, hle, by omega, ?_, ?_, fun O3 M3 hS3 hF3 => ?_⟩
                · show 2 * ((((mgA S).drop (lbl t (mgA S))).foldl apM []).length) ≤ _
                  omega
                · show 240 * ((((mgA S).drop (lbl t (mgA S))).foldl apM []).length) ≤ _
                  omega
                · have hFs := hF2.tr hF3
                  have hN3 := hN1.mut (S' := thS S t w) h3 (by rw [sA1]; exact hFs) (by rw [sA1]; exact hS3)
                  have s3 := hS3.1.1.1
                  have ss3 : mI M3 131 (sA M x i') = nI (((mgA S).take (lbl t (mgA S))).foldl (adS w) S.2.2.1).length := hS3.2.2.1.1
                  refine e_g2 hG [] 40 ?_
                  simp only [e_wp_s, Option.getD_some, Option.isSome_some, Option.isSome_none, xis0, xis1, xis2, xis3, xis4, e_ks, lk_k, lk_c, List.lookup_nil, gt_c, vi_i, k1_n, k1_c, k2_n, k2_c, ar_n, ar_c, pk_n, pk_c, rm_0, rm_1, rm_2, rm_3, rm_4, rm_5, rc_9, rcs, fvs, rf_s, rf_n, isI_i, isL_l, isR_r, isR_n, isR_q, ct_i, ct_l, ct_r, ct_n, ct_q, tFs, tCs, tKs, tJs, tSs, e_nf, lgs, ↓reduceIte, true_and, and_true, false_and, and_false, or_true, true_or, false_or, or_false, Nat.reduceAdd, Nat.reduceEqDiff, Nat.reduceDiv, Nat.reduceLT, Nat.reduceLeDiff, Nat.zero_add, reduceCtorEq, Bool.false_eq_true, Option.toList_some, Option.toList_none, List.cons_append, List.nil_append, not_true_eq_false, not_false_eq_true, Nat.sub_zero, dsX6_thin, jsX6_thin, xcX6_thin, s3, ss3]
                  exact hq O3 M3 hN3 (hFm.tr (fr_SN hFs (SN.k hFm hm) (by rw [hS1.1.1.1]; decide)))
            refine e_g2 hG [(63, [0, 2, 3, 4])] 60 ?_
            simp only [e_wp_s, Option.getD_some, Option.isSome_some, Option.isSome_none, xis0, xis1, xis2, xis3, xis4, e_ks, lk_k, lk_c, List.lookup_nil, gt_c, vi_i, k1_n, k1_c, k2_n, k2_c, ar_n, ar_c, pk_n, pk_c, rm_0, rm_1, rm_2, rm_3, rm_4, rm_5, rc_9, rcs, fvs, rf_s, rf_n, isI_i, isL_l, isR_r, isR_n, isR_q, ct_i, ct_l, ct_r, ct_n, ct_q, tFs, tCs, tKs, tJs, tSs, e_nf, lgs, ↓reduceIte, true_and, and_true, false_and, and_false, or_true, true_or, false_or, or_false, Nat.reduceAdd, Nat.reduceEqDiff, Nat.reduceDiv, Nat.reduceLT, Nat.reduceLeDiff, Nat.zero_add, reduceCtorEq, Bool.false_eq_true, Option.toList_some, Option.toList_none, List.cons_append, List.nil_append, not_true_eq_false, not_false_eq_true, Nat.sub_zero, dsX6_thin, jsX6_thin, xcX6_thin, k0, kR, h4, s0, sR, c1, c2, c3, c4, c5, c6, hw0, hse, i10, ↓sp_X6_seriesAt, ↓sp_X6_isTime, ↓sp_X4_spansEnd]
            exact ⟨hs6, hs6, main⟩
          · rw [if_pos (Or.inr (Or.inr (Or.inr (Or.inr (Or.inr c6)))))] at hq
            refine e_g2 hG [] 60 ?_
            simp only [e_wp_s, Option.getD_some, Option.isSome_some, Option.isSome_none, xis0, xis1, xis2, xis3, xis4, e_ks, lk_k, lk_c, List.lookup_nil, gt_c, vi_i, k1_n, k1_c, k2_n, k2_c, ar_n, ar_c, pk_n, pk_c, rm_0, rm_1, rm_2, rm_3, rm_4, rm_5, rc_9, rcs, fvs, rf_s, rf_n, isI_i, isL_l, isR_r, isR_n, isR_q, ct_i, ct_l, ct_r, ct_n, ct_q, tFs, tCs, tKs, tJs, tSs, e_nf, lgs, ↓reduceIte, true_and, and_true, false_and, and_false, or_true, true_or, false_or, or_false, Nat.reduceAdd, Nat.reduceEqDiff, Nat.reduceDiv, Nat.reduceLT, Nat.reduceLeDiff, Nat.zero_add, reduceCtorEq, Bool.false_eq_true, Option.toList_some, Option.toList_none, List.cons_append, List.nil_append, not_true_eq_false, not_false_eq_true, Nat.sub_zero, dsX6_thin, jsX6_thin, xcX6_thin, k0, kR, h4, s0, sR, c1, c2, c3, c4, c5, c6, hw0, hse, i10, ↓sp_X6_seriesAt, ↓sp_X6_isTime, ↓sp_X4_spansEnd]
            exact ⟨hs6, hs6, hq O M hN Fr.rf⟩
      · rw [if_pos (Or.inr (Or.inr (Or.inr (Or.inl c4))))] at hq
        refine e_g2 hG [] 60 ?_
        simp only [e_wp_s, Option.getD_some, Option.isSome_some, Option.isSome_none, xis0, xis1, xis2, xis3, xis4, e_ks, lk_k, lk_c, List.lookup_nil, gt_c, vi_i, k1_n, k1_c, k2_n, k2_c, ar_n, ar_c, pk_n, pk_c, rm_0, rm_1, rm_2, rm_3, rm_4, rm_5, rc_9, rcs, fvs, rf_s, rf_n, isI_i, isL_l, isR_r, isR_n, isR_q, ct_i, ct_l, ct_r, ct_n, ct_q, tFs, tCs, tKs, tJs, tSs, e_nf, lgs, ↓reduceIte, true_and, and_true, false_and, and_false, or_true, true_or, false_or, or_false, Nat.reduceAdd, Nat.reduceEqDiff, Nat.reduceDiv, Nat.reduceLT, Nat.reduceLeDiff, Nat.zero_add, reduceCtorEq, Bool.false_eq_true, Option.toList_some, Option.toList_none, List.cons_append, List.nil_append, not_true_eq_false, not_false_eq_true, Nat.sub_zero, dsX6_thin, jsX6_thin, xcX6_thin, k0, kR, h4, c1, c2, c3, c4, hw0, i10, ↓sp_X6_seriesAt, ↓sp_X6_isTime]
        exact hq O M hN Fr.rf
    · rw [if_pos (Or.inr (Or.inr (Or.inl c3)))] at hq
      refine e_g2 hG [] 60 ?_
      simp only [e_wp_s, Option.getD_some, Option.isSome_some, Option.isSome_none, xis0, xis1, xis2, xis3, xis4, e_ks, lk_k, lk_c, List.lookup_nil, gt_c, vi_i, k1_n, k1_c, k2_n, k2_c, ar_n, ar_c, pk_n, pk_c, rm_0, rm_1, rm_2, rm_3, rm_4, rm_5, rc_9, rcs, fvs, rf_s, rf_n, isI_i, isL_l, isR_r, isR_n, isR_q, ct_i, ct_l, ct_r, ct_n, ct_q, tFs, tCs, tKs, tJs, tSs, e_nf, lgs, ↓reduceIte, true_and, and_true, false_and, and_false, or_true, true_or, false_or, or_false, Nat.reduceAdd, Nat.reduceEqDiff, Nat.reduceDiv, Nat.reduceLT, Nat.reduceLeDiff, Nat.zero_add, reduceCtorEq, Bool.false_eq_true, Option.toList_some, Option.toList_none, List.cons_append, List.nil_append, not_true_eq_false, not_false_eq_true, Nat.sub_zero, dsX6_thin, jsX6_thin, xcX6_thin, k0, kR, h4, c1, c2, c3, i10, ↓sp_X6_seriesAt, ↓sp_X6_isTime]
      exact hq O M hN Fr.rf
