/-! Series: blocks and spans dropped -/
def kpB (t : Int32) (x : BLK) : Bool := decide (¬ eT (enc x.1) < t)
def kpS (t : Int32) (x : SPN) : Bool := decide (t < x.2.1)
def csX4_dropBlocks : CS := (cs_c 0 71 2 4 sp_X4_blockAt cs_0)
theorem csoX4_dropBlocks : ∀ op x na cl sp, csX4_dropBlocks op x = some (na, cl, sp) → CallOK 4 1 21 op x na cl sp := (cs_c_ok (caX4_dropBlocks_71 okX4_blockAt) cs_0_ok)
theorem xcX4_dropBlocks : (∀ (Q : QT) (G : GT) (pc : Nat) (L : LV) (a0 a1 : Value) (r : List Value) (M : HM) (k n : Nat), ex_i 4 6 1 false csX4_dropBlocks Q G (.invokevirtual 71) pc L (a1 :: a0 :: r) M k n = (e_rm r ∧ e_rc M 4 [a0, a1] ∧ sp_X4_blockAt [a0, a1] M k n (fun v M' k' n' => G (pc + 3) L (v.toList ++ r) M' k' n'))) := (fun _ _ _ _ _ _ _ _ _ _ => xv0_2 rfl)
def sp_X4_dropBlocks : SP := fun as M k n Q => match as with
  | [.ref s, .int t] => ∃ O kd lab sp bk lt, SRep O M s kd lab sp bk lt ∧ neB bk ∧ ∀ M', SRep O M' s kd lab sp (bk.filter (kpB t)) lt → Fr (Ss s) O O M M' → Q (some (.int (nI (bk.length - (bk.filter (kpB t)).length)))) M' k n
  | _ => False
theorem okX4_dropBlocks : OkX4_dropBlocks sp_X4_dropBlocks := by
  refine inX4_dropBlocks csoX4_dropBlocks ?_
  intro as M k n Q hsp
  unfold sp_X4_dropBlocks at hsp
  split at hsp
  rotate_left
  · exact hsp.elim
  rename_i s t
  obtain ⟨O, kd, lab, sp, bk, lt, hS, hne, hq⟩ := hsp
  obtain ⟨⟨h0, -, -, ⟨h1, h2, h3⟩, -⟩, -⟩ := id hS.1
  have hSR := hS.1.1
  obtain ⟨hc, hR⟩ := hS.2.2.2.1
  have hlen := hR.1
  refine ⟨0, 0, Nat.zero_le _, Nat.zero_le _, Nat.le_of_ble_eq_true rfl, fun G hG => ?_⟩
  have loop : ∀ d i U, i + d = bk.length → ArX M U (bks M s) (bks M s) → RowF (aR U (bks M s)) 300 (fun b => ∃ l f, BRep O M s b l f) (fun b x => BRep O M s b x.1 x.2) (kpB t) bk i → G 10 [(0, .ref s), (1, .int t), (2, .int (nI ((bk.take i).filter (kpB t)).length)), (3, .int (nI bk.length)), (4, .int (nI i))] [] U 0 0 := by
    intro d
    induction d with
    | zero =>
      intro i U hi hX hF
      obtain ⟨x1, x2, x3, x4, x5, -⟩ := id hX
      have u0 : mK U s = 5 := by rw [x1]; exact h0
      have e1 : ¬ nI i < nI bk.length := nI_nlt (by omega) (by omega)
      have ei : i = bk.length := by omega
      subst ei
      have hr := hS.r133 (sp' := sp) (lt' := lt) hX hF.end_
      have hle := List.length_filter_le (kpB t) bk
      refine e_g2 hG [] 60 ?_
      simp only [e_wp_s, Option.getD_some, Option.isSome_some, Option.isSome_none, xis0, xis1, xis2, xis3, xis4, e_ks, lk_k, lk_c, List.lookup_nil, gt_c, vi_i, k1_n, k1_c, k2_n, k2_c, ar_n, ar_c, pk_n, pk_c, rm_0, rm_1, rm_2, rm_3, rm_4, rm_5, rc_9, rcs, fvs, rf_s, rf_n, isI_i, isL_l, isR_r, isR_n, isR_q, ct_i, ct_l, ct_r, ct_n, ct_q, tFs, tCs, tKs, tJs, tSs, e_nf, lgs, ↓reduceIte, true_and, and_true, false_and, and_false, or_true, true_or, false_or, or_false, Nat.reduceAdd, Nat.reduceEqDiff, Nat.reduceDiv, Nat.reduceLT, Nat.reduceLeDiff, Nat.zero_add, reduceCtorEq, Bool.false_eq_true, Option.toList_some, Option.toList_none, List.cons_append, List.nil_append, not_true_eq_false, not_false_eq_true, Nat.sub_zero, dsX4_dropBlocks, jsX4_dropBlocks, xcX4_dropBlocks, u0, e1, hmK, hmN, hmI, hmL, hmR, haI, haL, haR, List.take_length]
      rw [nI_sub hle]
      exact hq _ hr.1 hr.2
    | succ d ih =>
      intro i U hi hX hF
      obtain ⟨x1, x2, x3, x4, x5, -⟩ := id hX
      have q3 : bks U s = bks M s := by unfold bks; rw [x5]
      have u0 : mK U s = 5 := by rw [x1]; exact h0
      have uS : SR U s := by
        have := (hS.arx hX hS.1.2.2.2.2.1 hS.1.2.2.2.2.1 (by rw [h2]; decide) (by rw [h2]; decide)).1.1
        exact this
      have u1 : mR U 132 s = some (bks M s) := by rw [x5]; exact h1
      have u2 : mK U (bks M s) = 11 := by rw [x1]; exact h2
      have u3 : mN U (bks M s) = 300 := by rw [x2]; exact h3
      have uc : mI U 133 s = nI bk.length := by rw [x3]; exact hc
      have e1 : nI i < nI bk.length := nI_lt (by omega) (by omega)
      obtain ⟨x, hx⟩ : ∃ x, bk[i]? = some x := ⟨_, List.getElem?_eq_getElem (by omega)⟩
      obtain ⟨b, hb, hB⟩ := hF.2.2.2.1 i x (Nat.le_refl _) hx
      have a6 : (nI i).toNatClampNeg = i := nI_clamp (by omega)
      have a7 : vp_in (nI i) 300 := vp_in_nI (by omega) (by decide)
      have fb : bkF U s (nI i) = some b := by
        unfold bkF
        rw [uc, if_pos ⟨nI_pos (by omega), e1, nI_lt (b := 300) (by omega) (by decide)⟩, a6, q3]
        exact hb
      have kb : mK U b = 1 := by rw [x1]; exact hB.K
      have lb6 : mI U 6 b = eT (enc x.1) := by
        rw [x3]; exact (hB.2.2.2.2.2.2.2.2.2.2.2.2.2 (hne x (List.mem_of_getElem? hx))).2.1
      have hkl : ((bk.take i).filter (kpB t)).length ≤ i := Nat.le_trans (List.length_filter_le _ _) (by rw [List.length_take]; omega)
      have ih2 := ih (i + 1)
      rw [take_f hx] at ih2
      generalize hK : ((bk.take i).filter (kpB t)).length = K at *
      have b6 : (nI K).toNatClampNeg = K := nI_clamp (by omega)
      have b7 : vp_in (nI K) 300 := vp_in_nI (by omega) (by decide)
      have b8 : nI K < 300 := nI_lt (b := 300) (by omega) (by decide)
      by_cases cc : eT (enc x.1) < t
      · have hk : (kpB t) x = false := by simp [kpB, kpS, cc]
        rw [hk, if_neg (by decide), List.append_nil, hK] at ih2
        refine e_g2 hG [(10, [0, 1, 2, 3, 4])] 60 ?_
        simp only [e_wp_s, Option.getD_some, Option.isSome_some, Option.isSome_none, xis0, xis1, xis2, xis3, xis4, e_ks, lk_k, lk_c, List.lookup_nil, gt_c, vi_i, k1_n, k1_c, k2_n, k2_c, ar_n, ar_c, pk_n, pk_c, rm_0, rm_1, rm_2, rm_3, rm_4, rm_5, rc_9, rcs, fvs, rf_s, rf_n, isI_i, isL_l, isR_r, isR_n, isR_q, ct_i, ct_l, ct_r, ct_n, ct_q, tFs, tCs, tKs, tJs, tSs, e_nf, lgs, ↓reduceIte, true_and, and_true, false_and, and_false, or_true, true_or, false_or, or_false, Nat.reduceAdd, Nat.reduceEqDiff, Nat.reduceDiv, Nat.reduceLT, Nat.reduceLeDiff, Nat.zero_add, reduceCtorEq, Bool.false_eq_true, Option.toList_some, Option.toList_none, List.cons_append, List.nil_append, not_true_eq_false, not_false_eq_true, Nat.sub_zero, dsX4_dropBlocks, jsX4_dropBlocks, xcX4_dropBlocks, u0, uS, uc, e1, fb, kb, lb6, cc, nI_1, ↓sp_X4_blockAt]
        exact ih2 U (by omega) hX (hF.no hx hk)
      · have hk : (kpB t) x = true := by simp [kpB, kpS, cc]
        rw [hk, if_pos rfl, List.length_append, hK] at ih2
        have fin : ∀ o, aR U (bks M s) K = o → G 10 [(0, .ref s), (1, .int t), (2, .int (nI (K + 1))), (3, .int (nI bk.length)), (4, .int (nI (i + 1)))] [] (tR (tR U (bks M s) i o) (bks M s) K (some b)) 0 0 := fun o ho => by
          refine ih2 _ (by omega) ((hX.tR (Or.inl rfl)).tR (Or.inl rfl)) (hF.yes hx hk hK.symm (fun j => ?_))
          simp only [haR, true_and]
          rw [hb, ho]
        cases hy : aR U (bks M s) K with
        | none =>
          refine e_g2 hG [(10, [0, 1, 2, 3, 4])] 60 ?_
          simp only [e_wp_s, Option.getD_some, Option.isSome_some, Option.isSome_none, xis0, xis1, xis2, xis3, xis4, e_ks, lk_k, lk_c, List.lookup_nil, gt_c, vi_i, k1_n, k1_c, k2_n, k2_c, ar_n, ar_c, pk_n, pk_c, rm_0, rm_1, rm_2, rm_3, rm_4, rm_5, rc_9, rcs, fvs, rf_s, rf_n, isI_i, isL_l, isR_r, isR_n, isR_q, ct_i, ct_l, ct_r, ct_n, ct_q, tFs, tCs, tKs, tJs, tSs, e_nf, lgs, ↓reduceIte, true_and, and_true, false_and, and_false, or_true, true_or, false_or, or_false, Nat.reduceAdd, Nat.reduceEqDiff, Nat.reduceDiv, Nat.reduceLT, Nat.reduceLeDiff, Nat.zero_add, reduceCtorEq, Bool.false_eq_true, Option.toList_some, Option.toList_none, List.cons_append, List.nil_append, not_true_eq_false, not_false_eq_true, Nat.sub_zero, dsX4_dropBlocks, jsX4_dropBlocks, xcX4_dropBlocks, u0, u1, u2, u3, uS, uc, e1, fb, kb, lb6, cc, a6, a7, b6, b7, b8, hy, nI_1, ofs, hmK, hmN, hmI, hmL, hmR, haI, haL, haR, ↓sp_X4_blockAt]
          refine ⟨rfl, ?_⟩
          exact fin _ hy
        | some y =>
          have ky : mK U y = 1 := by rw [x1]; exact (by obtain ⟨l, f, hl⟩ := hF.2.1 K y (by omega) hy; exact hl.K)
          refine e_g2 hG [(10, [0, 1, 2, 3, 4])] 60 ?_
          simp only [e_wp_s, Option.getD_some, Option.isSome_some, Option.isSome_none, xis0, xis1, xis2, xis3, xis4, e_ks, lk_k, lk_c, List.lookup_nil, gt_c, vi_i, k1_n, k1_c, k2_n, k2_c, ar_n, ar_c, pk_n, pk_c, rm_0, rm_1, rm_2, rm_3, rm_4, rm_5, rc_9, rcs, fvs, rf_s, rf_n, isI_i, isL_l, isR_r, isR_n, isR_q, ct_i, ct_l, ct_r, ct_n, ct_q, tFs, tCs, tKs, tJs, tSs, e_nf, lgs, ↓reduceIte, true_and, and_true, false_and, and_false, or_true, true_or, false_or, or_false, Nat.reduceAdd, Nat.reduceEqDiff, Nat.reduceDiv, Nat.reduceLT, Nat.reduceLeDiff, Nat.zero_add, reduceCtorEq, Bool.false_eq_true, Option.toList_some, Option.toList_none, List.cons_append, List.nil_append, not_true_eq_false, not_false_eq_true, Nat.sub_zero, dsX4_dropBlocks, jsX4_dropBlocks, xcX4_dropBlocks, u0, u1, u2, u3, uS, uc, e1, fb, kb, ky, lb6, cc, a6, a7, b6, b7, b8, hy, nI_1, ofs, hmK, hmN, hmI, hmL, hmR, haI, haL, haR, ↓sp_X4_blockAt]
          exact ⟨rfl, rfl, fin _ hy⟩
  refine e_g2 hG [(10, [0, 1, 2, 3, 4])] 60 ?_
  simp only [e_wp_s, Option.getD_some, Option.isSome_some, Option.isSome_none, xis0, xis1, xis2, xis3, xis4, e_ks, lk_k, lk_c, List.lookup_nil, gt_c, vi_i, k1_n, k1_c, k2_n, k2_c, ar_n, ar_c, pk_n, pk_c, rm_0, rm_1, rm_2, rm_3, rm_4, rm_5, rc_9, rcs, fvs, rf_s, rf_n, isI_i, isL_l, isR_r, isR_n, isR_q, ct_i, ct_l, ct_r, ct_n, ct_q, tFs, tCs, tKs, tJs, tSs, e_nf, lgs, ↓reduceIte, true_and, and_true, false_and, and_false, or_true, true_or, false_or, or_false, Nat.reduceAdd, Nat.reduceEqDiff, Nat.reduceDiv, Nat.reduceLT, Nat.reduceLeDiff, Nat.zero_add, reduceCtorEq, Bool.false_eq_true, Option.toList_some, Option.toList_none, List.cons_append, List.nil_append, not_true_eq_false, not_false_eq_true, Nat.sub_zero, dsX4_dropBlocks, jsX4_dropBlocks, xcX4_dropBlocks, h0, hc]
  exact loop bk.length 0 M (by omega) ArX.rf hR.f0
def csX4_dropSpans : CS := (cs_c 0 64 2 4 sp_X4_spanAt cs_0)
theorem csoX4_dropSpans : ∀ op x na cl sp, csX4_dropSpans op x = some (na, cl, sp) → CallOK 4 1 21 op x na cl sp := (cs_c_ok (caX4_dropSpans_64 okX4_spanAt) cs_0_ok)
theorem xcX4_dropSpans : (∀ (Q : QT) (G : GT) (pc : Nat) (L : LV) (a0 a1 : Value) (r : List Value) (M : HM) (k n : Nat), ex_i 4 6 1 false csX4_dropSpans Q G (.invokevirtual 64) pc L (a1 :: a0 :: r) M k n = (e_rm r ∧ e_rc M 4 [a0, a1] ∧ sp_X4_spanAt [a0, a1] M k n (fun v M' k' n' => G (pc + 3) L (v.toList ++ r) M' k' n'))) := (fun _ _ _ _ _ _ _ _ _ _ => xv0_2 rfl)
def sp_X4_dropSpans : SP := fun as M k n Q => match as with
  | [.ref s, .int t] => ∃ O kd lab sp bk lt, SRep O M s kd lab sp bk lt ∧ ∀ M', SRep O M' s kd lab (sp.filter (kpS t)) bk lt → Fr (Ss s) O O M M' → Q (some (.int (nI (sp.length - (sp.filter (kpS t)).length)))) M' k n
  | _ => False
theorem okX4_dropSpans : OkX4_dropSpans sp_X4_dropSpans := by
  refine inX4_dropSpans csoX4_dropSpans ?_
  intro as M k n Q hsp
  unfold sp_X4_dropSpans at hsp
  split at hsp
  rotate_left
  · exact hsp.elim
  rename_i s t
  obtain ⟨O, kd, lab, sp, bk, lt, hS, hq⟩ := hsp
  obtain ⟨⟨h0, -, ⟨h1, h2, h3⟩, -⟩, -⟩ := id hS.1
  have hSR := hS.1.1
  obtain ⟨hc, hR⟩ := hS.2.2.1
  have hlen := hR.1
  refine ⟨0, 0, Nat.zero_le _, Nat.zero_le _, Nat.le_of_ble_eq_true rfl, fun G hG => ?_⟩
  have loop : ∀ d i U, i + d = sp.length → ArX M U (sps M s) (sps M s) → RowF (aR U (sps M s)) 60 (fun p => mK M p = 6 ∧ O p = (s, s)) (SPK M) (kpS t) sp i → G 10 [(0, .ref s), (1, .int t), (2, .int (nI ((sp.take i).filter (kpS t)).length)), (3, .int (nI sp.length)), (4, .int (nI i))] [] U 0 0 := by
    intro d
    induction d with
    | zero =>
      intro i U hi hX hF
      obtain ⟨x1, x2, x3, x4, x5, -⟩ := id hX
      have u0 : mK U s = 5 := by rw [x1]; exact h0
      have e1 : ¬ nI i < nI sp.length := nI_nlt (by omega) (by omega)
      have ei : i = sp.length := by omega
      subst ei
      have hr := hS.r131 (bk' := bk) (lt' := lt) hX hF.end_
      have hle := List.length_filter_le (kpS t) sp
      refine e_g2 hG [] 60 ?_
      simp only [e_wp_s, Option.getD_some, Option.isSome_some, Option.isSome_none, xis0, xis1, xis2, xis3, xis4, e_ks, lk_k, lk_c, List.lookup_nil, gt_c, vi_i, k1_n, k1_c, k2_n, k2_c, ar_n, ar_c, pk_n, pk_c, rm_0, rm_1, rm_2, rm_3, rm_4, rm_5, rc_9, rcs, fvs, rf_s, rf_n, isI_i, isL_l, isR_r, isR_n, isR_q, ct_i, ct_l, ct_r, ct_n, ct_q, tFs, tCs, tKs, tJs, tSs, e_nf, lgs, ↓reduceIte, true_and, and_true, false_and, and_false, or_true, true_or, false_or, or_false, Nat.reduceAdd, Nat.reduceEqDiff, Nat.reduceDiv, Nat.reduceLT, Nat.reduceLeDiff, Nat.zero_add, reduceCtorEq, Bool.false_eq_true, Option.toList_some, Option.toList_none, List.cons_append, List.nil_append, not_true_eq_false, not_false_eq_true, Nat.sub_zero, dsX4_dropSpans, jsX4_dropSpans, xcX4_dropSpans, u0, e1, hmK, hmN, hmI, hmL, hmR, haI, haL, haR, List.take_length]
      rw [nI_sub hle]
      exact hq _ hr.1 hr.2
    | succ d ih =>
      intro i U hi hX hF
      obtain ⟨x1, x2, x3, x4, x5, -⟩ := id hX
      have q3 : sps U s = sps M s := by unfold sps; rw [x5]
      have u0 : mK U s = 5 := by rw [x1]; exact h0
      have uS : SR U s := by
        have := (hS.arx hX hS.1.2.2.2.1 hS.1.2.2.2.1 (by rw [h2]; decide) (by rw [h2]; decide)).1.1
        exact this
      have u1 : mR U 130 s = some (sps M s) := by rw [x5]; exact h1
      have u2 : mK U (sps M s) = 13 := by rw [x1]; exact h2
      have u3 : mN U (sps M s) = 60 := by rw [x2]; exact h3
      have uc : mI U 131 s = nI sp.length := by rw [x3]; exact hc
      have e1 : nI i < nI sp.length := nI_lt (by omega) (by omega)
      obtain ⟨x, hx⟩ : ∃ x, sp[i]? = some x := ⟨_, List.getElem?_eq_getElem (by omega)⟩
      obtain ⟨b, hb, hB⟩ := hF.2.2.2.1 i x (Nat.le_refl _) hx
      have a6 : (nI i).toNatClampNeg = i := nI_clamp (by omega)
      have a7 : vp_in (nI i) 60 := vp_in_nI (by omega) (by decide)
      have fb : spF U s (nI i) = some b := by
        unfold spF
        rw [uc, if_pos ⟨nI_pos (by omega), e1, nI_lt (b := 60) (by omega) (by decide)⟩, a6, q3]
        exact hb
      have kb : mK U b = 6 := by rw [x1]; exact (hF.2.1 i b (by omega) hb).1
      have lb6 : mI U 161 b = x.2.1 := by rw [x3]; exact hB.2.1
      have hkl : ((sp.take i).filter (kpS t)).length ≤ i := Nat.le_trans (List.length_filter_le _ _) (by rw [List.length_take]; omega)
      have ih2 := ih (i + 1)
      rw [take_f hx] at ih2
      generalize hK : ((sp.take i).filter (kpS t)).length = K at *
      have b6 : (nI K).toNatClampNeg = K := nI_clamp (by omega)
      have b7 : vp_in (nI K) 60 := vp_in_nI (by omega) (by decide)
      have b8 : nI K < 60 := nI_lt (b := 60) (by omega) (by decide)
      by_cases cc : t < x.2.1
      · have hk : (kpS t) x = true := by simp [kpB, kpS, cc]
        rw [hk, if_pos rfl, List.length_append, hK] at ih2
        have fin : ∀ o, aR U (sps M s) K = o → G 10 [(0, .ref s), (1, .int t), (2, .int (nI (K + 1))), (3, .int (nI sp.length)), (4, .int (nI (i + 1)))] [] (tR (tR U (sps M s) i o) (sps M s) K (some b)) 0 0 := fun o ho => by
          refine ih2 _ (by omega) ((hX.tR (Or.inl rfl)).tR (Or.inl rfl)) (hF.yes hx hk hK.symm (fun j => ?_))
          simp only [haR, true_and]
          rw [hb, ho]
        cases hy : aR U (sps M s) K with
        | none =>
          refine e_g2 hG [(10, [0, 1, 2, 3, 4])] 60 ?_
          simp only [e_wp_s, Option.getD_some, Option.isSome_some, Option.isSome_none, xis0, xis1, xis2, xis3, xis4, e_ks, lk_k, lk_c, List.lookup_nil, gt_c, vi_i, k1_n, k1_c, k2_n, k2_c, ar_n, ar_c, pk_n, pk_c, rm_0, rm_1, rm_2, rm_3, rm_4, rm_5, rc_9, rcs, fvs, rf_s, rf_n, isI_i, isL_l, isR_r, isR_n, isR_q, ct_i, ct_l, ct_r, ct_n, ct_q, tFs, tCs, tKs, tJs, tSs, e_nf, lgs, ↓reduceIte, true_and, and_true, false_and, and_false, or_true, true_or, false_or, or_false, Nat.reduceAdd, Nat.reduceEqDiff, Nat.reduceDiv, Nat.reduceLT, Nat.reduceLeDiff, Nat.zero_add, reduceCtorEq, Bool.false_eq_true, Option.toList_some, Option.toList_none, List.cons_append, List.nil_append, not_true_eq_false, not_false_eq_true, Nat.sub_zero, dsX4_dropSpans, jsX4_dropSpans, xcX4_dropSpans, u0, u1, u2, u3, uS, uc, e1, fb, kb, lb6, cc, a6, a7, b6, b7, b8, hy, nI_1, ofs, hmK, hmN, hmI, hmL, hmR, haI, haL, haR, ↓sp_X4_spanAt]
          refine ⟨rfl, ?_⟩
          exact fin _ hy
        | some y =>
          have ky : mK U y = 6 := by rw [x1]; exact (hF.2.1 K y (by omega) hy).1
          refine e_g2 hG [(10, [0, 1, 2, 3, 4])] 60 ?_
          simp only [e_wp_s, Option.getD_some, Option.isSome_some, Option.isSome_none, xis0, xis1, xis2, xis3, xis4, e_ks, lk_k, lk_c, List.lookup_nil, gt_c, vi_i, k1_n, k1_c, k2_n, k2_c, ar_n, ar_c, pk_n, pk_c, rm_0, rm_1, rm_2, rm_3, rm_4, rm_5, rc_9, rcs, fvs, rf_s, rf_n, isI_i, isL_l, isR_r, isR_n, isR_q, ct_i, ct_l, ct_r, ct_n, ct_q, tFs, tCs, tKs, tJs, tSs, e_nf, lgs, ↓reduceIte, true_and, and_true, false_and, and_false, or_true, true_or, false_or, or_false, Nat.reduceAdd, Nat.reduceEqDiff, Nat.reduceDiv, Nat.reduceLT, Nat.reduceLeDiff, Nat.zero_add, reduceCtorEq, Bool.false_eq_true, Option.toList_some, Option.toList_none, List.cons_append, List.nil_append, not_true_eq_false, not_false_eq_true, Nat.sub_zero, dsX4_dropSpans, jsX4_dropSpans, xcX4_dropSpans, u0, u1, u2, u3, uS, uc, e1, fb, kb, ky, lb6, cc, a6, a7, b6, b7, b8, hy, nI_1, ofs, hmK, hmN, hmI, hmL, hmR, haI, haL, haR, ↓sp_X4_spanAt]
          exact ⟨rfl, rfl, fin _ hy⟩
      · have hk : (kpS t) x = false := by simp [kpB, kpS, cc]
        rw [hk, if_neg (by decide), List.append_nil, hK] at ih2
        refine e_g2 hG [(10, [0, 1, 2, 3, 4])] 60 ?_
        simp only [e_wp_s, Option.getD_some, Option.isSome_some, Option.isSome_none, xis0, xis1, xis2, xis3, xis4, e_ks, lk_k, lk_c, List.lookup_nil, gt_c, vi_i, k1_n, k1_c, k2_n, k2_c, ar_n, ar_c, pk_n, pk_c, rm_0, rm_1, rm_2, rm_3, rm_4, rm_5, rc_9, rcs, fvs, rf_s, rf_n, isI_i, isL_l, isR_r, isR_n, isR_q, ct_i, ct_l, ct_r, ct_n, ct_q, tFs, tCs, tKs, tJs, tSs, e_nf, lgs, ↓reduceIte, true_and, and_true, false_and, and_false, or_true, true_or, false_or, or_false, Nat.reduceAdd, Nat.reduceEqDiff, Nat.reduceDiv, Nat.reduceLT, Nat.reduceLeDiff, Nat.zero_add, reduceCtorEq, Bool.false_eq_true, Option.toList_some, Option.toList_none, List.cons_append, List.nil_append, not_true_eq_false, not_false_eq_true, Nat.sub_zero, dsX4_dropSpans, jsX4_dropSpans, xcX4_dropSpans, u0, uS, uc, e1, fb, kb, lb6, cc, nI_1, ↓sp_X4_spanAt]
        exact ih2 U (by omega) hX (hF.no hx hk)
  refine e_g2 hG [(10, [0, 1, 2, 3, 4])] 60 ?_
  simp only [e_wp_s, Option.getD_some, Option.isSome_some, Option.isSome_none, xis0, xis1, xis2, xis3, xis4, e_ks, lk_k, lk_c, List.lookup_nil, gt_c, vi_i, k1_n, k1_c, k2_n, k2_c, ar_n, ar_c, pk_n, pk_c, rm_0, rm_1, rm_2, rm_3, rm_4, rm_5, rc_9, rcs, fvs, rf_s, rf_n, isI_i, isL_l, isR_r, isR_n, isR_q, ct_i, ct_l, ct_r, ct_n, ct_q, tFs, tCs, tKs, tJs, tSs, e_nf, lgs, ↓reduceIte, true_and, and_true, false_and, and_false, or_true, true_or, false_or, or_false, Nat.reduceAdd, Nat.reduceEqDiff, Nat.reduceDiv, Nat.reduceLT, Nat.reduceLeDiff, Nat.zero_add, reduceCtorEq, Bool.false_eq_true, Option.toList_some, Option.toList_none, List.cons_append, List.nil_append, not_true_eq_false, not_false_eq_true, Nat.sub_zero, dsX4_dropSpans, jsX4_dropSpans, xcX4_dropSpans, h0, hc]
  exact loop sp.length 0 M (by omega) ArX.rf hR.f0
