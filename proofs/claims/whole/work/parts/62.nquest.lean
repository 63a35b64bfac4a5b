/-! the river: questions -/
def askC (S : SER) (a b : Int32) (u : QV) : QV := qfold ptQ (qfold hdQ (qfold (spQ a b) u S.2.2.1) (S.2.2.2.1.filter (told a b S.2.2.2.2))) (gth S.2.2.2.2 a b (mpts (S.2.2.2.1.filter (unp a b S.2.2.2.2))))
def lookS (S : SER) (a b : Int32) : Nat × Nat × Nat := (szs (unp a b S.2.2.2.2) S.2.2.2.1, cnt (cuSp a b) S.2.2.1, cnt (trn a b) S.2.2.2.1)
def lookP (S : SER) (x0 a b : Int32) : Nat × Nat × Nat := (szs (unr x0 b) S.2.2.2.1, 0, cnt (trn a b) S.2.2.2.1)
theorem qb_QR {O : GH} {M : HM} {q : Nat} (h : mK M q = 3) (hq : (O q).1 = q) (a b : Int32) : QR (qbM M q a b) q a b q0 0 0 0 ∧ Fr (Ss q) O O M (qbM M q a b) := by
  refine ⟨⟨by unfold qbM; simp only [hmK]; exact h, ?_, ?_, ?_, ?_, Or.inl ⟨rfl, rfl, rfl⟩, by decide, ?_, ?_, ?_⟩, fr_K (by unfold qbM; simp only [hmK]) (fun c hc => ?_)⟩
  · unfold qbM; simp only [hmI, Nat.reduceEqDiff, false_and, and_self, if_false, if_true]
  · unfold qbM; simp only [hmI, Nat.reduceEqDiff, false_and, and_self, if_false, if_true]
  · unfold qbM; simp only [hmI, Nat.reduceEqDiff, false_and, and_self, if_false, if_true]; rfl
  · unfold qbM; simp only [hmL, Nat.reduceEqDiff, false_and, and_self, if_false, if_true]; rfl
  · unfold qbM; simp only [hmI, Nat.reduceEqDiff, false_and, and_self, if_false, if_true]; rfl
  · unfold qbM; simp only [hmI, Nat.reduceEqDiff, false_and, and_self, if_false, if_true]; rfl
  · unfold qbM; simp only [hmI, Nat.reduceEqDiff, false_and, and_self, if_false, if_true]; rfl
  · have c1 : c ≠ q := fun e => hc (by show (O c).1 = q; rw [e]; exact hq)
    unfold qbM
    exact sm_sI c1 (sm_sI c1 (sm_sI c1 (sm_sL c1 (sm_sL c1 (sm_sL c1 (sm_sI c1 (sm_sI c1 (sm_sI c1 Sm.rf))))))))
/-- a question begins -/
theorem NRep.beg {O : GH} {M : HM} {x sc ct tr : Nat} {L : List SER} (h : NRep O M x L sc ct tr) (a b : Int32) : NRep O (qbM M (qA M x) a b) x L 0 0 0 ∧ QR (qbM M (qA M x) a b) (qA M x) a b q0 0 0 0 ∧ Fr (Ss (qA M x)) O O M (qbM M (qA M x) a b) ∧ gA (qbM M (qA M x) a b) x = gA M x ∧ qA (qbM M (qA M x) a b) x = qA M x ∧ rws (qbM M (qA M x) a b) x = rws M x ∧ ∀ i, sA (qbM M (qA M x) a b) x i = sA M x i := by
  obtain ⟨k1, k2, k3, k4⟩ := h.ks
  obtain ⟨q1, q2⟩ := qb_QR (O := O) k3 h.2.2.2.2.2.1 a b
  have ne : gA M x ≠ qA M x := fun e => by rw [e, k3] at k2; cases k2
  have hg := h.2.2.2.2.1
  have gO := hg.2
  obtain ⟨b1, b2, b3, b4, b5, b6, b7⟩ := h.base q2 (fun c o ho e => by
    have : x = qA M x := ho.symm.trans e
    rw [← this, k1] at k3; cases k3)
  exact ⟨h.qst (q2.mono (fun _ _ e => Or.inl e)) (hg.frm q2 (fun e => ne (gO.1.symm.trans e)) (fun e => ne (gO.2.1.symm.trans e)) (fun e => ne (gO.2.2.1.symm.trans e))).1 q1, q1, q2, b4, b5, b3, b6⟩
def aCount (L : List SER) (z : Nat × Nat × Nat) (i a b : Int32) : Int32 × Nat × Nat × Nat := match ser L i with
  | none => (-1, z)
  | some S => if ¬ a < 0 ∧ a < b then (nI (askC S a b q0).1, lookS S a b) else (-2, z)
def csX6_count : CS := (cs_c 0 38 2 6 sp_X6_seriesAt (cs_c 2 214 2 9 sp_X6_isWindow (cs_c 0 217 3 2 sp_X2_begin (cs_c 0 219 3 2 sp_X2_lookByHeads cs_0))))
theorem csoX6_count : ∀ op x na cl sp, csX6_count op x = some (na, cl, sp) → CallOK 6 6 136 op x na cl sp := (cs_c_ok (caX6_count_38 okX6_seriesAt) (cs_c_ok (caX6_count_214 okX6_isWindow) (cs_c_ok (caX6_count_217 okX2_begin) (cs_c_ok (caX6_count_219 okX2_lookByHeads) cs_0_ok))))
theorem xcX6_count : (∀ (Q : QT) (G : GT) (pc : Nat) (L : LV) (a0 a1 : Value) (r : List Value) (M : HM) (k n : Nat), ex_i 6 5 1 false csX6_count Q G (.invokevirtual 38) pc L (a1 :: a0 :: r) M k n = (e_rm r ∧ e_rc M 6 [a0, a1] ∧ sp_X6_seriesAt [a0, a1] M k n (fun v M' k' n' => G (pc + 3) L (v.toList ++ r) M' k' n'))) ∧ (∀ (Q : QT) (G : GT) (pc : Nat) (L : LV) (a0 a1 : Value) (r : List Value) (M : HM) (k n : Nat), ex_i 6 5 1 false csX6_count Q G (.invokestatic 214) pc L (a1 :: a0 :: r) M k n = (e_rm r ∧ e_rc M 9 [a0, a1] ∧ sp_X6_isWindow [a0, a1] M k n (fun v M' k' n' => G (pc + 3) L (v.toList ++ r) M' k' n'))) ∧ (∀ (Q : QT) (G : GT) (pc : Nat) (L : LV) (a0 a1 a2 : Value) (r : List Value) (M : HM) (k n : Nat), ex_i 6 5 1 false csX6_count Q G (.invokevirtual 217) pc L (a2 :: a1 :: a0 :: r) M k n = (e_rm r ∧ e_rc M 2 [a0, a1, a2] ∧ sp_X2_begin [a0, a1, a2] M k n (fun v M' k' n' => G (pc + 3) L (v.toList ++ r) M' k' n'))) ∧ (∀ (Q : QT) (G : GT) (pc : Nat) (L : LV) (a0 a1 a2 : Value) (r : List Value) (M : HM) (k n : Nat), ex_i 6 5 1 false csX6_count Q G (.invokevirtual 219) pc L (a2 :: a1 :: a0 :: r) M k n = (e_rm r ∧ e_rc M 2 [a0, a1, a2] ∧ sp_X2_lookByHeads [a0, a1, a2] M k n (fun v M' k' n' => G (pc + 3) L (v.toList ++ r) M' k' n'))) := ⟨(fun _ _ _ _ _ _ _ _ _ _ => xv0_2 rfl), (fun _ _ _ _ _ _ _ _ _ _ => xv2_2 rfl), (fun _ _ _ _ _ _ _ _ _ _ _ => xv0_3 rfl), (fun _ _ _ _ _ _ _ _ _ _ _ => xv0_3 rfl)⟩
def sp_X6_count : SP := fun as M k n Q => match as with
  | [.ref x, .int i, .int a, .int b] => ∃ O L z m, NRep O M x L z.1 z.2.1 z.2.2 ∧ mK M m = 8 ∧ wf1 L ∧ ∀ O' M', NRep O' M' x L (aCount L z i a b).2.1 (aCount L z i a b).2.2.1 (aCount L z i a b).2.2.2 → Fr (SN m) O O' M M' → Q (some (.int (aCount L z i a b).1)) M' k n
  | _ => False
theorem okX6_count : OkX6_count sp_X6_count := by
  refine inX6_count csoX6_count ?_
  intro as M k n Q hsp
  unfold sp_X6_count at hsp
  split at hsp
  rotate_left
  · exact hsp.elim
  rename_i x i a b
  obtain ⟨O, L, z, m, hN, hm, hwf, hq⟩ := hsp
  have k0 := hN.1.1.1
  have kR := hN.1.1
  obtain ⟨z1, z2, z3, z4⟩ := hN.ks
  have gr := hN.1.1.2.2.1
  have qr := hN.1.1.2.2.2
  refine ⟨0, 0, Nat.zero_le _, Nat.zero_le _, Nat.le_of_ble_eq_true rfl, fun G hG => ?_⟩
  unfold aCount at hq
  rcases hN.sa i with ⟨h1, h2⟩ | ⟨i', S, h1, rfl, h3, h4, h5, h6⟩
  · rw [h1] at hq
    refine e_g2 hG [] 40 ?_
    simp only [e_wp_s, Option.getD_some, Option.isSome_some, Option.isSome_none, xis0, xis1, xis2, xis3, xis4, e_ks, lk_k, lk_c, List.lookup_nil, gt_c, vi_i, k1_n, k1_c, k2_n, k2_c, ar_n, ar_c, pk_n, pk_c, rm_0, rm_1, rm_2, rm_3, rm_4, rm_5, rc_9, rcs, fvs, rf_s, rf_n, isI_i, isL_l, isR_r, isR_n, isR_q, ct_i, ct_l, ct_r, ct_n, ct_q, tFs, tCs, tKs, tJs, tSs, e_nf, lgs, ↓reduceIte, true_and, and_true, false_and, and_false, or_true, true_or, false_or, or_false, Nat.reduceAdd, Nat.reduceEqDiff, Nat.reduceDiv, Nat.reduceLT, Nat.reduceLeDiff, Nat.zero_add, reduceCtorEq, Bool.false_eq_true, Option.toList_some, Option.toList_none, List.cons_append, List.nil_append, not_true_eq_false, not_false_eq_true, Nat.sub_zero, dsX6_count, jsX6_count, xcX6_count, k0, kR, h2, ↓sp_X6_seriesAt]
    exact hq O M hN Fr.rf
  · simp only [h1] at hq
    have s0 := h5.1.1.1
    have sk : mI M 128 (sA M x i') = S.1 := h5.2.1.1
    obtain ⟨w1, w2, w3⟩ := hwf S (List.mem_of_getElem? h3)
    obtain ⟨n1, n2, n3, n4, n5, n6, n7⟩ := hN.beg a b
    by_cases c1 : ¬ a < 0 ∧ a < b
    · rw [if_pos c1] at hq
      refine e_g2 hG [(34, [0, 4])] 60 ?_
      simp only [e_wp_s, Option.getD_some, Option.isSome_some, Option.isSome_none, xis0, xis1, xis2, xis3, xis4, e_ks, lk_k, lk_c, List.lookup_nil, gt_c, vi_i, k1_n, k1_c, k2_n, k2_c, ar_n, ar_c, pk_n, pk_c, rm_0, rm_1, rm_2, rm_3, rm_4, rm_5, rc_9, rcs, fvs, rf_s, rf_n, isI_i, isL_l, isR_r, isR_n, isR_q, ct_i, ct_l, ct_r, ct_n, ct_q, tFs, tCs, tKs, tJs, tSs, e_nf, lgs, ↓reduceIte, true_and, and_true, false_and, and_false, or_true, true_or, false_or, or_false, Nat.reduceAdd, Nat.reduceEqDiff, Nat.reduceDiv, Nat.reduceLT, Nat.reduceLeDiff, Nat.zero_add, reduceCtorEq, Bool.false_eq_true, Option.toList_some, Option.toList_none, List.cons_append, List.nil_append, not_true_eq_false, not_false_eq_true, Nat.sub_zero, dsX6_count, jsX6_count, xcX6_count, k0, kR, qr, z3, h4, s0, sk, c1, i10, ↓sp_X6_seriesAt, ↓sp_X6_isWindow, ↓sp_X2_begin]
      obtain ⟨y1, y2, y3, y4⟩ := n1.ks
      have x1 := n1.1.1.1
      have gr1 : mR (qbM M (qA M x) a b) 194 x = some (gA M x) := by rw [← n4]; exact n1.1.1.2.2.1
      have qr1 : mR (qbM M (qA M x) a b) 195 x = some (qA M x) := by rw [← n5]; exact n1.1.1.2.2.2
      have q3 := n2.1
      have hg1 := n1.2.2.2.2.1
      rw [n4] at hg1
      have hq1 := n1.2.2.2.2.2.1
      rw [n5] at hq1
      have hS1 := (n1.2.2.1 i' S h3).2
      rw [n7] at hS1
      have e1 : qA M x ≠ sA M x i' := fun e => by have := z4 i' S h3; rw [← e, z3] at this; cases this
      have e2 : gA M x ≠ sA M x i' := fun e => by have := z4 i' S h3; rw [← e, z2] at this; cases this
      have e3 : qA M x ≠ gA M x := fun e => by rw [e, z2] at z3; cases z3
      have hF0 := fr_SN n3 hm (by rw [z3]; decide)
      generalize qbM M (qA M x) a b = B at *
      refine e_g2 hG [(47, [0])] 60 ?_
      simp only [e_wp_s, Option.getD_some, Option.isSome_some, Option.isSome_none, xis0, xis1, xis2, xis3, xis4, e_ks, lk_k, lk_c, List.lookup_nil, gt_c, vi_i, k1_n, k1_c, k2_n, k2_c, ar_n, ar_c, pk_n, pk_c, rm_0, rm_1, rm_2, rm_3, rm_4, rm_5, rc_9, rcs, fvs, rf_s, rf_n, isI_i, isL_l, isR_r, isR_n, isR_q, ct_i, ct_l, ct_r, ct_n, ct_q, tFs, tCs, tKs, tJs, tSs, e_nf, lgs, ↓reduceIte, true_and, and_true, false_and, and_false, or_true, true_or, false_or, or_false, Nat.reduceAdd, Nat.reduceEqDiff, Nat.reduceDiv, Nat.reduceLT, Nat.reduceLeDiff, Nat.zero_add, reduceCtorEq, Bool.false_eq_true, Option.toList_some, Option.toList_none, List.cons_append, List.nil_append, not_true_eq_false, not_false_eq_true, Nat.sub_zero, dsX6_count, jsX6_count, xcX6_count, x1, gr1, qr1, q3]
      refine ⟨O, qA M x, gA M x, a, b, q0, 0, 0, 0, _, _, _, _, _, n2, hS1, hg1, ⟨hq1, e1, e2, e3⟩, w3, w1, w2, by decide, fun M2 hQ2 hW2 hF2 => ?_⟩
      have hF2' : Fr (S2r (qA B x) (gA B x)) O O B M2 := by rw [n4, n5]; exact hF2
      have hN2 := n1.qst hF2' (by rw [n4]; exact hW2) (by rw [n5]; exact hQ2)
      simp only [Nat.zero_add] at hN2
      have hb2 := n1.base hF2' (fun c o ho e => e.elim (fun e => by
        have : x = qA B x := ho.symm.trans e
        rw [← this, y1] at y3; cases y3) (fun e => by
        have : x = gA B x := ho.symm.trans e
        rw [← this, y1] at y2; cases y2))
      have x2 := hN2.1.1.1
      have gr2 : mR M2 194 x = some (gA M x) := by rw [← n4, ← hb2.2.2.2.1]; exact hN2.1.1.2.2.1
      have qr2 : mR M2 195 x = some (qA M x) := by rw [← n5, ← hb2.2.2.2.2.1]; exact hN2.1.1.2.2.2
      have hFin := hF0.tr (fr2_SN hF2 (SN.k hF0 hm) (by rw [q3]; decide) (by rw [← n4, y2]; decide))
      have hq := hq O M2 hN2 hFin
      have q2 := hQ2.1
      have qv := hQ2.2.2.2.1
      refine e_g2 hG [] 60 ?_
      simp only [e_wp_s, Option.getD_some, Option.isSome_some, Option.isSome_none, xis0, xis1, xis2, xis3, xis4, e_ks, lk_k, lk_c, List.lookup_nil, gt_c, vi_i, k1_n, k1_c, k2_n, k2_c, ar_n, ar_c, pk_n, pk_c, rm_0, rm_1, rm_2, rm_3, rm_4, rm_5, rc_9, rcs, fvs, rf_s, rf_n, isI_i, isL_l, isR_r, isR_n, isR_q, ct_i, ct_l, ct_r, ct_n, ct_q, tFs, tCs, tKs, tJs, tSs, e_nf, lgs, ↓reduceIte, true_and, and_true, false_and, and_false, or_true, true_or, false_or, or_false, Nat.reduceAdd, Nat.reduceEqDiff, Nat.reduceDiv, Nat.reduceLT, Nat.reduceLeDiff, Nat.zero_add, reduceCtorEq, Bool.false_eq_true, Option.toList_some, Option.toList_none, List.cons_append, List.nil_append, not_true_eq_false, not_false_eq_true, Nat.sub_zero, dsX6_count, jsX6_count, xcX6_count, x2, qr2, q2, qv]
      exact hq
    · rw [if_neg c1] at hq
      refine e_g2 hG [] 60 ?_
      simp only [e_wp_s, Option.getD_some, Option.isSome_some, Option.isSome_none, xis0, xis1, xis2, xis3, xis4, e_ks, lk_k, lk_c, List.lookup_nil, gt_c, vi_i, k1_n, k1_c, k2_n, k2_c, ar_n, ar_c, pk_n, pk_c, rm_0, rm_1, rm_2, rm_3, rm_4, rm_5, rc_9, rcs, fvs, rf_s, rf_n, isI_i, isL_l, isR_r, isR_n, isR_q, ct_i, ct_l, ct_r, ct_n, ct_q, tFs, tCs, tKs, tJs, tSs, e_nf, lgs, ↓reduceIte, true_and, and_true, false_and, and_false, or_true, true_or, false_or, or_false, Nat.reduceAdd, Nat.reduceEqDiff, Nat.reduceDiv, Nat.reduceLT, Nat.reduceLeDiff, Nat.zero_add, reduceCtorEq, Bool.false_eq_true, Option.toList_some, Option.toList_none, List.cons_append, List.nil_append, not_true_eq_false, not_false_eq_true, Nat.sub_zero, dsX6_count, jsX6_count, xcX6_count, k0, kR, h4, c1, i10, ↓sp_X6_seriesAt, ↓sp_X6_isWindow]
      exact hq O M hN Fr.rf
def aSum (L : List SER) (z : Nat × Nat × Nat) (i a b : Int32) : Int64 × Nat × Nat × Nat := match ser L i with
  | none => (NOv, z)
  | some S => if ¬ a < 0 ∧ a < b then ((askC S a b q0).2.1, lookS S a b) else (NOv, z)
def csX6_sum : CS := (cs_c 0 38 2 6 sp_X6_seriesAt (cs_c 2 214 2 9 sp_X6_isWindow (cs_c 0 217 3 2 sp_X2_begin (cs_c 0 219 3 2 sp_X2_lookByHeads cs_0))))
theorem csoX6_sum : ∀ op x na cl sp, csX6_sum op x = some (na, cl, sp) → CallOK 6 6 136 op x na cl sp := (cs_c_ok (caX6_sum_38 okX6_seriesAt) (cs_c_ok (caX6_sum_214 okX6_isWindow) (cs_c_ok (caX6_sum_217 okX2_begin) (cs_c_ok (caX6_sum_219 okX2_lookByHeads) cs_0_ok))))
theorem xcX6_sum : (∀ (Q : QT) (G : GT) (pc : Nat) (L : LV) (a0 a1 : Value) (r : List Value) (M : HM) (k n : Nat), ex_i 6 5 2 false csX6_sum Q G (.invokevirtual 38) pc L (a1 :: a0 :: r) M k n = (e_rm r ∧ e_rc M 6 [a0, a1] ∧ sp_X6_seriesAt [a0, a1] M k n (fun v M' k' n' => G (pc + 3) L (v.toList ++ r) M' k' n'))) ∧ (∀ (Q : QT) (G : GT) (pc : Nat) (L : LV) (a0 a1 : Value) (r : List Value) (M : HM) (k n : Nat), ex_i 6 5 2 false csX6_sum Q G (.invokestatic 214) pc L (a1 :: a0 :: r) M k n = (e_rm r ∧ e_rc M 9 [a0, a1] ∧ sp_X6_isWindow [a0, a1] M k n (fun v M' k' n' => G (pc + 3) L (v.toList ++ r) M' k' n'))) ∧ (∀ (Q : QT) (G : GT) (pc : Nat) (L : LV) (a0 a1 a2 : Value) (r : List Value) (M : HM) (k n : Nat), ex_i 6 5 2 false csX6_sum Q G (.invokevirtual 217) pc L (a2 :: a1 :: a0 :: r) M k n = (e_rm r ∧ e_rc M 2 [a0, a1, a2] ∧ sp_X2_begin [a0, a1, a2] M k n (fun v M' k' n' => G (pc + 3) L (v.toList ++ r) M' k' n'))) ∧ (∀ (Q : QT) (G : GT) (pc : Nat) (L : LV) (a0 a1 a2 : Value) (r : List Value) (M : HM) (k n : Nat), ex_i 6 5 2 false csX6_sum Q G (.invokevirtual 219) pc L (a2 :: a1 :: a0 :: r) M k n = (e_rm r ∧ e_rc M 2 [a0, a1, a2] ∧ sp_X2_lookByHeads [a0, a1, a2] M k n (fun v M' k' n' => G (pc + 3) L (v.toList ++ r) M' k' n'))) := ⟨(fun _ _ _ _ _ _ _ _ _ _ => xv0_2 rfl), (fun _ _ _ _ _ _ _ _ _ _ => xv2_2 rfl), (fun _ _ _ _ _ _ _ _ _ _ _ => xv0_3 rfl), (fun _ _ _ _ _ _ _ _ _ _ _ => xv0_3 rfl)⟩
def sp_X6_sum : SP := fun as M k n Q => match as with
  | [.ref x, .int i, .int a, .int b] => ∃ O L z m, NRep O M x L z.1 z.2.1 z.2.2 ∧ mK M m = 8 ∧ wf1 L ∧ ∀ O' M', NRep O' M' x L (aSum L z i a b).2.1 (aSum L z i a b).2.2.1 (aSum L z i a b).2.2.2 → Fr (SN m) O O' M M' → Q (some (.long (aSum L z i a b).1)) M' k n
  | _ => False
theorem okX6_sum : OkX6_sum sp_X6_sum := by
  refine inX6_sum csoX6_sum ?_
  intro as M k n Q hsp
  unfold sp_X6_sum at hsp
  split at hsp
  rotate_left
  · exact hsp.elim
  rename_i x i a b
  obtain ⟨O, L, z, m, hN, hm, hwf, hq⟩ := hsp
  have k0 := hN.1.1.1
  have kR := hN.1.1
  obtain ⟨z1, z2, z3, z4⟩ := hN.ks
  have gr := hN.1.1.2.2.1
  have qr := hN.1.1.2.2.2
  refine ⟨0, 0, Nat.zero_le _, Nat.zero_le _, Nat.le_of_ble_eq_true rfl, fun G hG => ?_⟩
  unfold aSum at hq
  rcases hN.sa i with ⟨h1, h2⟩ | ⟨i', S, h1, rfl, h3, h4, h5, h6⟩
  · rw [h1] at hq
    refine e_g2 hG [] 40 ?_
    simp only [e_wp_s, Option.getD_some, Option.isSome_some, Option.isSome_none, xis0, xis1, xis2, xis3, xis4, e_ks, lk_k, lk_c, List.lookup_nil, gt_c, vi_i, k1_n, k1_c, k2_n, k2_c, ar_n, ar_c, pk_n, pk_c, rm_0, rm_1, rm_2, rm_3, rm_4, rm_5, rc_9, rcs, fvs, rf_s, rf_n, isI_i, isL_l, isR_r, isR_n, isR_q, ct_i, ct_l, ct_r, ct_n, ct_q, tFs, tCs, tKs, tJs, tSs, e_nf, lgs, ↓reduceIte, true_and, and_true, false_and, and_false, or_true, true_or, false_or, or_false, Nat.reduceAdd, Nat.reduceEqDiff, Nat.reduceDiv, Nat.reduceLT, Nat.reduceLeDiff, Nat.zero_add, reduceCtorEq, Bool.false_eq_true, Option.toList_some, Option.toList_none, List.cons_append, List.nil_append, not_true_eq_false, not_false_eq_true, Nat.sub_zero, dsX6_sum, jsX6_sum, xcX6_sum, k0, kR, h2, ↓sp_X6_seriesAt]
    exact hq O M hN Fr.rf
  · simp only [h1] at hq
    have s0 := h5.1.1.1
    have sk : mI M 128 (sA M x i') = S.1 := h5.2.1.1
    obtain ⟨w1, w2, w3⟩ := hwf S (List.mem_of_getElem? h3)
    obtain ⟨n1, n2, n3, n4, n5, n6, n7⟩ := hN.beg a b
    by_cases c1 : ¬ a < 0 ∧ a < b
    · rw [if_pos c1] at hq
      refine e_g2 hG [(33, [0, 4])] 60 ?_
      simp only [e_wp_s, Option.getD_some, Option.isSome_some, Option.isSome_none, xis0, xis1, xis2, xis3, xis4, e_ks, lk_k, lk_c, List.lookup_nil, gt_c, vi_i, k1_n, k1_c, k2_n, k2_c, ar_n, ar_c, pk_n, pk_c, rm_0, rm_1, rm_2, rm_3, rm_4, rm_5, rc_9, rcs, fvs, rf_s, rf_n, isI_i, isL_l, isR_r, isR_n, isR_q, ct_i, ct_l, ct_r, ct_n, ct_q, tFs, tCs, tKs, tJs, tSs, e_nf, lgs, ↓reduceIte, true_and, and_true, false_and, and_false, or_true, true_or, false_or, or_false, Nat.reduceAdd, Nat.reduceEqDiff, Nat.reduceDiv, Nat.reduceLT, Nat.reduceLeDiff, Nat.zero_add, reduceCtorEq, Bool.false_eq_true, Option.toList_some, Option.toList_none, List.cons_append, List.nil_append, not_true_eq_false, not_false_eq_true, Nat.sub_zero, dsX6_sum, jsX6_sum, xcX6_sum, k0, kR, qr, z3, h4, s0, sk, c1, i10, ↓sp_X6_seriesAt, ↓sp_X6_isWindow, ↓sp_X2_begin]
      obtain ⟨y1, y2, y3, y4⟩ := n1.ks
      have x1 := n1.1.1.1
      have gr1 : mR (qbM M (qA M x) a b) 194 x = some (gA M x) := by rw [← n4]; exact n1.1.1.2.2.1
      have qr1 : mR (qbM M (qA M x) a b) 195 x = some (qA M x) := by rw [← n5]; exact n1.1.1.2.2.2
      have q3 := n2.1
      have hg1 := n1.2.2.2.2.1
      rw [n4] at hg1
      have hq1 := n1.2.2.2.2.2.1
      rw [n5] at hq1
      have hS1 := (n1.2.2.1 i' S h3).2
      rw [n7] at hS1
      have e1 : qA M x ≠ sA M x i' := fun e => by have := z4 i' S h3; rw [← e, z3] at this; cases this
      have e2 : gA M x ≠ sA M x i' := fun e => by have := z4 i' S h3; rw [← e, z2] at this; cases this
      have e3 : qA M x ≠ gA M x := fun e => by rw [e, z2] at z3; cases z3
      have hF0 := fr_SN n3 hm (by rw [z3]; decide)
      generalize qbM M (qA M x) a b = B at *
      refine e_g2 hG [(46, [0])] 60 ?_
      simp only [e_wp_s, Option.getD_some, Option.isSome_some, Option.isSome_none, xis0, xis1, xis2, xis3, xis4, e_ks, lk_k, lk_c, List.lookup_nil, gt_c, vi_i, k1_n, k1_c, k2_n, k2_c, ar_n, ar_c, pk_n, pk_c, rm_0, rm_1, rm_2, rm_3, rm_4, rm_5, rc_9, rcs, fvs, rf_s, rf_n, isI_i, isL_l, isR_r, isR_n, isR_q, ct_i, ct_l, ct_r, ct_n, ct_q, tFs, tCs, tKs, tJs, tSs, e_nf, lgs, ↓reduceIte, true_and, and_true, false_and, and_false, or_true, true_or, false_or, or_false, Nat.reduceAdd, Nat.reduceEqDiff, Nat.reduceDiv, Nat.reduceLT, Nat.reduceLeDiff, Nat.zero_add, reduceCtorEq, Bool.false_eq_true, Option.toList_some, Option.toList_none, List.cons_append, List.nil_append, not_true_eq_false, not_false_eq_true, Nat.sub_zero, dsX6_sum, jsX6_sum, xcX6_sum, x1, gr1, qr1, q3]
      refine ⟨O, qA M x, gA M x, a, b, q0, 0, 0, 0, _, _, _, _, _, n2, hS1, hg1, ⟨hq1, e1, e2, e3⟩, w3, w1, w2, by decide, fun M2 hQ2 hW2 hF2 => ?_⟩
      have hF2' : Fr (S2r (qA B x) (gA B x)) O O B M2 := by rw [n4, n5]; exact hF2
      have hN2 := n1.qst hF2' (by rw [n4]; exact hW2) (by rw [n5]; exact hQ2)
      simp only [Nat.zero_add] at hN2
      have hb2 := n1.base hF2' (fun c o ho e => e.elim (fun e => by
        have : x = qA B x := ho.symm.trans e
        rw [← this, y1] at y3; cases y3) (fun e => by
        have : x = gA B x := ho.symm.trans e
        rw [← this, y1] at y2; cases y2))
      have x2 := hN2.1.1.1
      have gr2 : mR M2 194 x = some (gA M x) := by rw [← n4, ← hb2.2.2.2.1]; exact hN2.1.1.2.2.1
      have qr2 : mR M2 195 x = some (qA M x) := by rw [← n5, ← hb2.2.2.2.2.1]; exact hN2.1.1.2.2.2
      have hFin := hF0.tr (fr2_SN hF2 (SN.k hF0 hm) (by rw [q3]; decide) (by rw [← n4, y2]; decide))
      have hq := hq O M2 hN2 hFin
      have q2 := hQ2.1
      have qv := hQ2.2.2.2.2.1
      refine e_g2 hG [] 60 ?_
      simp only [e_wp_s, Option.getD_some, Option.isSome_some, Option.isSome_none, xis0, xis1, xis2, xis3, xis4, e_ks, lk_k, lk_c, List.lookup_nil, gt_c, vi_i, k1_n, k1_c, k2_n, k2_c, ar_n, ar_c, pk_n, pk_c, rm_0, rm_1, rm_2, rm_3, rm_4, rm_5, rc_9, rcs, fvs, rf_s, rf_n, isI_i, isL_l, isR_r, isR_n, isR_q, ct_i, ct_l, ct_r, ct_n, ct_q, tFs, tCs, tKs, tJs, tSs, e_nf, lgs, ↓reduceIte, true_and, and_true, false_and, and_false, or_true, true_or, false_or, or_false, Nat.reduceAdd, Nat.reduceEqDiff, Nat.reduceDiv, Nat.reduceLT, Nat.reduceLeDiff, Nat.zero_add, reduceCtorEq, Bool.false_eq_true, Option.toList_some, Option.toList_none, List.cons_append, List.nil_append, not_true_eq_false, not_false_eq_true, Nat.sub_zero, dsX6_sum, jsX6_sum, xcX6_sum, x2, qr2, q2, qv]
      exact hq
    · rw [if_neg c1] at hq
      refine e_g2 hG [] 60 ?_
      simp only [e_wp_s, Option.getD_some, Option.isSome_some, Option.isSome_none, xis0, xis1, xis2, xis3, xis4, e_ks, lk_k, lk_c, List.lookup_nil, gt_c, vi_i, k1_n, k1_c, k2_n, k2_c, ar_n, ar_c, pk_n, pk_c, rm_0, rm_1, rm_2, rm_3, rm_4, rm_5, rc_9, rcs, fvs, rf_s, rf_n, isI_i, isL_l, isR_r, isR_n, isR_q, ct_i, ct_l, ct_r, ct_n, ct_q, tFs, tCs, tKs, tJs, tSs, e_nf, lgs, ↓reduceIte, true_and, and_true, false_and, and_false, or_true, true_or, false_or, or_false, Nat.reduceAdd, Nat.reduceEqDiff, Nat.reduceDiv, Nat.reduceLT, Nat.reduceLeDiff, Nat.zero_add, reduceCtorEq, Bool.false_eq_true, Option.toList_some, Option.toList_none, List.cons_append, List.nil_append, not_true_eq_false, not_false_eq_true, Nat.sub_zero, dsX6_sum, jsX6_sum, xcX6_sum, k0, kR, h4, c1, i10, ↓sp_X6_seriesAt, ↓sp_X6_isWindow]
      exact hq O M hN Fr.rf
def aLeast (L : List SER) (z : Nat × Nat × Nat) (i a b ms : Int32) : Int64 × Nat × Nat × Nat := match ser L i with
  | none => (NOv, z)
  | some S => if ¬ a < 0 ∧ a < b then (((if ms = 0 then (askC S a b q0).2.2.1 else (askC S a b q0).2.2.2).getD NOv), lookS S a b) else (NOv, z)
def csX6_least : CS := (cs_c 0 38 2 6 sp_X6_seriesAt (cs_c 2 214 2 9 sp_X6_isWindow (cs_c 0 217 3 2 sp_X2_begin (cs_c 0 219 3 2 sp_X2_lookByHeads cs_0))))
theorem csoX6_least : ∀ op x na cl sp, csX6_least op x = some (na, cl, sp) → CallOK 6 6 136 op x na cl sp := (cs_c_ok (caX6_least_38 okX6_seriesAt) (cs_c_ok (caX6_least_214 okX6_isWindow) (cs_c_ok (caX6_least_217 okX2_begin) (cs_c_ok (caX6_least_219 okX2_lookByHeads) cs_0_ok))))
theorem xcX6_least : (∀ (Q : QT) (G : GT) (pc : Nat) (L : LV) (a0 a1 : Value) (r : List Value) (M : HM) (k n : Nat), ex_i 6 6 2 false csX6_least Q G (.invokevirtual 38) pc L (a1 :: a0 :: r) M k n = (e_rm r ∧ e_rc M 6 [a0, a1] ∧ sp_X6_seriesAt [a0, a1] M k n (fun v M' k' n' => G (pc + 3) L (v.toList ++ r) M' k' n'))) ∧ (∀ (Q : QT) (G : GT) (pc : Nat) (L : LV) (a0 a1 : Value) (r : List Value) (M : HM) (k n : Nat), ex_i 6 6 2 false csX6_least Q G (.invokestatic 214) pc L (a1 :: a0 :: r) M k n = (e_rm r ∧ e_rc M 9 [a0, a1] ∧ sp_X6_isWindow [a0, a1] M k n (fun v M' k' n' => G (pc + 3) L (v.toList ++ r) M' k' n'))) ∧ (∀ (Q : QT) (G : GT) (pc : Nat) (L : LV) (a0 a1 a2 : Value) (r : List Value) (M : HM) (k n : Nat), ex_i 6 6 2 false csX6_least Q G (.invokevirtual 217) pc L (a2 :: a1 :: a0 :: r) M k n = (e_rm r ∧ e_rc M 2 [a0, a1, a2] ∧ sp_X2_begin [a0, a1, a2] M k n (fun v M' k' n' => G (pc + 3) L (v.toList ++ r) M' k' n'))) ∧ (∀ (Q : QT) (G : GT) (pc : Nat) (L : LV) (a0 a1 a2 : Value) (r : List Value) (M : HM) (k n : Nat), ex_i 6 6 2 false csX6_least Q G (.invokevirtual 219) pc L (a2 :: a1 :: a0 :: r) M k n = (e_rm r ∧ e_rc M 2 [a0, a1, a2] ∧ sp_X2_lookByHeads [a0, a1, a2] M k n (fun v M' k' n' => G (pc + 3) L (v.toList ++ r) M' k' n'))) := ⟨(fun _ _ _ _ _ _ _ _ _ _ => xv0_2 rfl), (fun _ _ _ _ _ _ _ _ _ _ => xv2_2 rfl), (fun _ _ _ _ _ _ _ _ _ _ _ => xv0_3 rfl), (fun _ _ _ _ _ _ _ _ _ _ _ => xv0_3 rfl)⟩
def sp_X6_least : SP := fun as M k n Q => match as with
  | [.ref x, .int i, .int a, .int b, .int ms] => ∃ O L z m, NRep O M x L z.1 z.2.1 z.2.2 ∧ mK M m = 8 ∧ wf1 L ∧ ∀ O' M', NRep O' M' x L (aLeast L z i a b ms).2.1 (aLeast L z i a b ms).2.2.1 (aLeast L z i a b ms).2.2.2 → Fr (SN m) O O' M M' → Q (some (.long (aLeast L z i a b ms).1)) M' k n
  | _ => False
theorem okX6_least : OkX6_least sp_X6_least := by
  refine inX6_least csoX6_least ?_
  intro as M k n Q hsp
  unfold sp_X6_least at hsp
  split at hsp
  rotate_left
  · exact hsp.elim
  rename_i x i a b ms
  obtain ⟨O, L, z, m, hN, hm, hwf, hq⟩ := hsp
  have k0 := hN.1.1.1
  have kR := hN.1.1
  obtain ⟨z1, z2, z3, z4⟩ := hN.ks
  have gr := hN.1.1.2.2.1
  have qr := hN.1.1.2.2.2
  refine ⟨0, 0, Nat.zero_le _, Nat.zero_le _, Nat.le_of_ble_eq_true rfl, fun G hG => ?_⟩
  unfold aLeast at hq
  rcases hN.sa i with ⟨h1, h2⟩ | ⟨i', S, h1, rfl, h3, h4, h5, h6⟩
  · rw [h1] at hq
    refine e_g2 hG [] 40 ?_
    simp only [e_wp_s, Option.getD_some, Option.isSome_some, Option.isSome_none, xis0, xis1, xis2, xis3, xis4, e_ks, lk_k, lk_c, List.lookup_nil, gt_c, vi_i, k1_n, k1_c, k2_n, k2_c, ar_n, ar_c, pk_n, pk_c, rm_0, rm_1, rm_2, rm_3, rm_4, rm_5, rc_9, rcs, fvs, rf_s, rf_n, isI_i, isL_l, isR_r, isR_n, isR_q, ct_i, ct_l, ct_r, ct_n, ct_q, tFs, tCs, tKs, tJs, tSs, e_nf, lgs, ↓reduceIte, true_and, and_true, false_and, and_false, or_true, true_or, false_or, or_false, Nat.reduceAdd, Nat.reduceEqDiff, Nat.reduceDiv, Nat.reduceLT, Nat.reduceLeDiff, Nat.zero_add, reduceCtorEq, Bool.false_eq_true, Option.toList_some, Option.toList_none, List.cons_append, List.nil_append, not_true_eq_false, not_false_eq_true, Nat.sub_zero, dsX6_least, jsX6_least, xcX6_least, k0, kR, h2, ↓sp_X6_seriesAt]
    exact hq O M hN Fr.rf
  · simp only [h1] at hq
    have s0 := h5.1.1.1
    have sk : mI M 128 (sA M x i') = S.1 := h5.2.1.1
    obtain ⟨w1, w2, w3⟩ := hwf S (List.mem_of_getElem? h3)
    obtain ⟨n1, n2, n3, n4, n5, n6, n7⟩ := hN.beg a b
    by_cases c1 : ¬ a < 0 ∧ a < b
    · rw [if_pos c1] at hq
      refine e_g2 hG [(33, [0, 4, 5])] 60 ?_
      simp only [e_wp_s, Option.getD_some, Option.isSome_some, Option.isSome_none, xis0, xis1, xis2, xis3, xis4, e_ks, lk_k, lk_c, List.lookup_nil, gt_c, vi_i, k1_n, k1_c, k2_n, k2_c, ar_n, ar_c, pk_n, pk_c, rm_0, rm_1, rm_2, rm_3, rm_4, rm_5, rc_9, rcs, fvs, rf_s, rf_n, isI_i, isL_l, isR_r, isR_n, isR_q, ct_i, ct_l, ct_r, ct_n, ct_q, tFs, tCs, tKs, tJs, tSs, e_nf, lgs, ↓reduceIte, true_and, and_true, false_and, and_false, or_true, true_or, false_or, or_false, Nat.reduceAdd, Nat.reduceEqDiff, Nat.reduceDiv, Nat.reduceLT, Nat.reduceLeDiff, Nat.zero_add, reduceCtorEq, Bool.false_eq_true, Option.toList_some, Option.toList_none, List.cons_append, List.nil_append, not_true_eq_false, not_false_eq_true, Nat.sub_zero, dsX6_least, jsX6_least, xcX6_least, k0, kR, qr, z3, h4, s0, sk, c1, i10, ↓sp_X6_seriesAt, ↓sp_X6_isWindow, ↓sp_X2_begin]
      obtain ⟨y1, y2, y3, y4⟩ := n1.ks
      have x1 := n1.1.1.1
      have gr1 : mR (qbM M (qA M x) a b) 194 x = some (gA M x) := by rw [← n4]; exact n1.1.1.2.2.1
      have qr1 : mR (qbM M (qA M x) a b) 195 x = some (qA M x) := by rw [← n5]; exact n1.1.1.2.2.2
      have q3 := n2.1
      have hg1 := n1.2.2.2.2.1
      rw [n4] at hg1
      have hq1 := n1.2.2.2.2.2.1
      rw [n5] at hq1
      have hS1 := (n1.2.2.1 i' S h3).2
      rw [n7] at hS1
      have e1 : qA M x ≠ sA M x i' := fun e => by have := z4 i' S h3; rw [← e, z3] at this; cases this
      have e2 : gA M x ≠ sA M x i' := fun e => by have := z4 i' S h3; rw [← e, z2] at this; cases this
      have e3 : qA M x ≠ gA M x := fun e => by rw [e, z2] at z3; cases z3
      have hF0 := fr_SN n3 hm (by rw [z3]; decide)
      generalize qbM M (qA M x) a b = B at *
      refine e_g2 hG [(46, [0, 4])] 60 ?_
      simp only [e_wp_s, Option.getD_some, Option.isSome_some, Option.isSome_none, xis0, xis1, xis2, xis3, xis4, e_ks, lk_k, lk_c, List.lookup_nil, gt_c, vi_i, k1_n, k1_c, k2_n, k2_c, ar_n, ar_c, pk_n, pk_c, rm_0, rm_1, rm_2, rm_3, rm_4, rm_5, rc_9, rcs, fvs, rf_s, rf_n, isI_i, isL_l, isR_r, isR_n, isR_q, ct_i, ct_l, ct_r, ct_n, ct_q, tFs, tCs, tKs, tJs, tSs, e_nf, lgs, ↓reduceIte, true_and, and_true, false_and, and_false, or_true, true_or, false_or, or_false, Nat.reduceAdd, Nat.reduceEqDiff, Nat.reduceDiv, Nat.reduceLT, Nat.reduceLeDiff, Nat.zero_add, reduceCtorEq, Bool.false_eq_true, Option.toList_some, Option.toList_none, List.cons_append, List.nil_append, not_true_eq_false, not_false_eq_true, Nat.sub_zero, dsX6_least, jsX6_least, xcX6_least, x1, gr1, qr1, q3]
      refine ⟨O, qA M x, gA M x, a, b, q0, 0, 0, 0, _, _, _, _, _, n2, hS1, hg1, ⟨hq1, e1, e2, e3⟩, w3, w1, w2, by decide, fun M2 hQ2 hW2 hF2 => ?_⟩
      have hF2' : Fr (S2r (qA B x) (gA B x)) O O B M2 := by rw [n4, n5]; exact hF2
      have hN2 := n1.qst hF2' (by rw [n4]; exact hW2) (by rw [n5]; exact hQ2)
      simp only [Nat.zero_add] at hN2
      have hb2 := n1.base hF2' (fun c o ho e => e.elim (fun e => by
        have : x = qA B x := ho.symm.trans e
        rw [← this, y1] at y3; cases y3) (fun e => by
        have : x = gA B x := ho.symm.trans e
        rw [← this, y1] at y2; cases y2))
      have x2 := hN2.1.1.1
      have gr2 : mR M2 194 x = some (gA M x) := by rw [← n4, ← hb2.2.2.2.1]; exact hN2.1.1.2.2.1
      have qr2 : mR M2 195 x = some (qA M x) := by rw [← n5, ← hb2.2.2.2.2.1]; exact hN2.1.1.2.2.2
      have hFin := hF0.tr (fr2_SN hF2 (SN.k hF0 hm) (by rw [q3]; decide) (by rw [← n4, y2]; decide))
      have hq := hq O M2 hN2 hFin
      have q2 := hQ2.1
      have qv := hQ2.2.2.2.1
      have q6 := hQ2.2.2.2.2.2.1
      have q7 := hQ2.2.2.2.2.2.2.1
      change Q (some (.long ((if ms = 0 then (askC S a b q0).2.2.1 else (askC S a b q0).2.2.2).getD NOv))) M2 k n at hq
      change mI M2 66 (qA M x) = nI (askC S a b q0).1 at qv
      change ((askC S a b q0).2.2.1 = none ∧ (askC S a b q0).2.2.2 = none ∧ (askC S a b q0).1 = 0) ∨ ((askC S a b q0).2.2.1 = some (mL M2 68 (qA M x)) ∧ (askC S a b q0).2.2.2 = some (mL M2 69 (qA M x)) ∧ 0 < (askC S a b q0).1) at q6
      change (askC S a b q0).1 < 2 ^ 31 at q7
      generalize askC S a b q0 = U at *
      rcases q6 with ⟨u1, u2, u3⟩ | ⟨u1, u2, u3⟩
      · have u4 : nI U.1 = 0 := by rw [u3]; rfl
        rw [u1, u2] at hq
        refine e_g2 hG [] 60 ?_
        simp only [e_wp_s, Option.getD_some, Option.isSome_some, Option.isSome_none, xis0, xis1, xis2, xis3, xis4, e_ks, lk_k, lk_c, List.lookup_nil, gt_c, vi_i, k1_n, k1_c, k2_n, k2_c, ar_n, ar_c, pk_n, pk_c, rm_0, rm_1, rm_2, rm_3, rm_4, rm_5, rc_9, rcs, fvs, rf_s, rf_n, isI_i, isL_l, isR_r, isR_n, isR_q, ct_i, ct_l, ct_r, ct_n, ct_q, tFs, tCs, tKs, tJs, tSs, e_nf, lgs, ↓reduceIte, true_and, and_true, false_and, and_false, or_true, true_or, false_or, or_false, Nat.reduceAdd, Nat.reduceEqDiff, Nat.reduceDiv, Nat.reduceLT, Nat.reduceLeDiff, Nat.zero_add, reduceCtorEq, Bool.false_eq_true, Option.toList_some, Option.toList_none, List.cons_append, List.nil_append, not_true_eq_false, not_false_eq_true, Nat.sub_zero, dsX6_least, jsX6_least, xcX6_least, x2, qr2, q2, qv, u4]
        simpa [NOv] using hq
      · have u4 : ¬ nI U.1 = 0 := nI_ne0 u3 q7
        rw [u1, u2] at hq
        by_cases c3 : ms = 0
        · rw [if_pos c3] at hq
          refine e_g2 hG [] 60 ?_
          simp only [e_wp_s, Option.getD_some, Option.isSome_some, Option.isSome_none, xis0, xis1, xis2, xis3, xis4, e_ks, lk_k, lk_c, List.lookup_nil, gt_c, vi_i, k1_n, k1_c, k2_n, k2_c, ar_n, ar_c, pk_n, pk_c, rm_0, rm_1, rm_2, rm_3, rm_4, rm_5, rc_9, rcs, fvs, rf_s, rf_n, isI_i, isL_l, isR_r, isR_n, isR_q, ct_i, ct_l, ct_r, ct_n, ct_q, tFs, tCs, tKs, tJs, tSs, e_nf, lgs, ↓reduceIte, true_and, and_true, false_and, and_false, or_true, true_or, false_or, or_false, Nat.reduceAdd, Nat.reduceEqDiff, Nat.reduceDiv, Nat.reduceLT, Nat.reduceLeDiff, Nat.zero_add, reduceCtorEq, Bool.false_eq_true, Option.toList_some, Option.toList_none, List.cons_append, List.nil_append, not_true_eq_false, not_false_eq_true, Nat.sub_zero, dsX6_least, jsX6_least, xcX6_least, x2, qr2, q2, qv, u4, c3]
          exact hq
        · rw [if_neg c3] at hq
          refine e_g2 hG [] 60 ?_
          simp only [e_wp_s, Option.getD_some, Option.isSome_some, Option.isSome_none, xis0, xis1, xis2, xis3, xis4, e_ks, lk_k, lk_c, List.lookup_nil, gt_c, vi_i, k1_n, k1_c, k2_n, k2_c, ar_n, ar_c, pk_n, pk_c, rm_0, rm_1, rm_2, rm_3, rm_4, rm_5, rc_9, rcs, fvs, rf_s, rf_n, isI_i, isL_l, isR_r, isR_n, isR_q, ct_i, ct_l, ct_r, ct_n, ct_q, tFs, tCs, tKs, tJs, tSs, e_nf, lgs, ↓reduceIte, true_and, and_true, false_and, and_false, or_true, true_or, false_or, or_false, Nat.reduceAdd, Nat.reduceEqDiff, Nat.reduceDiv, Nat.reduceLT, Nat.reduceLeDiff, Nat.zero_add, reduceCtorEq, Bool.false_eq_true, Option.toList_some, Option.toList_none, List.cons_append, List.nil_append, not_true_eq_false, not_false_eq_true, Nat.sub_zero, dsX6_least, jsX6_least, xcX6_least, x2, qr2, q2, qv, u4, c3]
          exact hq
    · rw [if_neg c1] at hq
      refine e_g2 hG [] 60 ?_
      simp only [e_wp_s, Option.getD_some, Option.isSome_some, Option.isSome_none, xis0, xis1, xis2, xis3, xis4, e_ks, lk_k, lk_c, List.lookup_nil, gt_c, vi_i, k1_n, k1_c, k2_n, k2_c, ar_n, ar_c, pk_n, pk_c, rm_0, rm_1, rm_2, rm_3, rm_4, rm_5, rc_9, rcs, fvs, rf_s, rf_n, isI_i, isL_l, isR_r, isR_n, isR_q, ct_i, ct_l, ct_r, ct_n, ct_q, tFs, tCs, tKs, tJs, tSs, e_nf, lgs, ↓reduceIte, true_and, and_true, false_and, and_false, or_true, true_or, false_or, or_false, Nat.reduceAdd, Nat.reduceEqDiff, Nat.reduceDiv, Nat.reduceLT, Nat.reduceLeDiff, Nat.zero_add, reduceCtorEq, Bool.false_eq_true, Option.toList_some, Option.toList_none, List.cons_append, List.nil_append, not_true_eq_false, not_false_eq_true, Nat.sub_zero, dsX6_least, jsX6_least, xcX6_least, k0, kR, h4, c1, i10, ↓sp_X6_seriesAt, ↓sp_X6_isWindow]
      exact hq O M hN Fr.rf
def aRise (L : List SER) (z : Nat × Nat × Nat) (i a b : Int32) : Int64 × Nat × Nat × Nat := match ser L i with
  | none => (NOv, z)
  | some S => if (¬ a < 0 ∧ a < b) ∧ S.1 = 3 then (rsN (gth S.2.2.2.2 a b (mpts (S.2.2.2.1.filter (unr a b)))), lookP S a a b) else (NOv, z)
def csX6_rise : CS := (cs_c 0 38 2 6 sp_X6_seriesAt (cs_c 2 214 2 9 sp_X6_isWindow (cs_c 0 217 3 2 sp_X2_begin (cs_c 0 230 4 2 sp_X2_lookByPoints (cs_c 0 234 1 1 sp_X1_risen cs_0)))))
theorem csoX6_rise : ∀ op x na cl sp, csX6_rise op x = some (na, cl, sp) → CallOK 6 6 136 op x na cl sp := (cs_c_ok (caX6_rise_38 okX6_seriesAt) (cs_c_ok (caX6_rise_214 okX6_isWindow) (cs_c_ok (caX6_rise_217 okX2_begin) (cs_c_ok (caX6_rise_230 okX2_lookByPoints) (cs_c_ok (caX6_rise_234 okX1_risen) cs_0_ok)))))
theorem xcX6_rise : (∀ (Q : QT) (G : GT) (pc : Nat) (L : LV) (a0 a1 : Value) (r : List Value) (M : HM) (k n : Nat), ex_i 6 5 2 false csX6_rise Q G (.invokevirtual 38) pc L (a1 :: a0 :: r) M k n = (e_rm r ∧ e_rc M 6 [a0, a1] ∧ sp_X6_seriesAt [a0, a1] M k n (fun v M' k' n' => G (pc + 3) L (v.toList ++ r) M' k' n'))) ∧ (∀ (Q : QT) (G : GT) (pc : Nat) (L : LV) (a0 a1 : Value) (r : List Value) (M : HM) (k n : Nat), ex_i 6 5 2 false csX6_rise Q G (.invokestatic 214) pc L (a1 :: a0 :: r) M k n = (e_rm r ∧ e_rc M 9 [a0, a1] ∧ sp_X6_isWindow [a0, a1] M k n (fun v M' k' n' => G (pc + 3) L (v.toList ++ r) M' k' n'))) ∧ (∀ (Q : QT) (G : GT) (pc : Nat) (L : LV) (a0 a1 a2 : Value) (r : List Value) (M : HM) (k n : Nat), ex_i 6 5 2 false csX6_rise Q G (.invokevirtual 217) pc L (a2 :: a1 :: a0 :: r) M k n = (e_rm r ∧ e_rc M 2 [a0, a1, a2] ∧ sp_X2_begin [a0, a1, a2] M k n (fun v M' k' n' => G (pc + 3) L (v.toList ++ r) M' k' n'))) ∧ (∀ (Q : QT) (G : GT) (pc : Nat) (L : LV) (a0 a1 a2 a3 : Value) (r : List Value) (M : HM) (k n : Nat), ex_i 6 5 2 false csX6_rise Q G (.invokevirtual 230) pc L (a3 :: a2 :: a1 :: a0 :: r) M k n = (e_rm r ∧ e_rc M 2 [a0, a1, a2, a3] ∧ sp_X2_lookByPoints [a0, a1, a2, a3] M k n (fun v M' k' n' => G (pc + 3) L (v.toList ++ r) M' k' n'))) ∧ (∀ (Q : QT) (G : GT) (pc : Nat) (L : LV) (a0 : Value) (r : List Value) (M : HM) (k n : Nat), ex_i 6 5 2 false csX6_rise Q G (.invokevirtual 234) pc L (a0 :: r) M k n = (e_rm r ∧ e_rc M 1 [a0] ∧ sp_X1_risen [a0] M k n (fun v M' k' n' => G (pc + 3) L (v.toList ++ r) M' k' n'))) := ⟨(fun _ _ _ _ _ _ _ _ _ _ => xv0_2 rfl), (fun _ _ _ _ _ _ _ _ _ _ => xv2_2 rfl), (fun _ _ _ _ _ _ _ _ _ _ _ => xv0_3 rfl), (fun _ _ _ _ _ _ _ _ _ _ _ _ => xv0_4 rfl), (fun _ _ _ _ _ _ _ _ _ => xv0_1 rfl)⟩
def sp_X6_rise : SP := fun as M k n Q => match as with
  | [.ref x, .int i, .int a, .int b] => ∃ O L z m, NRep O M x L z.1 z.2.1 z.2.2 ∧ mK M m = 8 ∧ wf1 L ∧ ∀ O' M', NRep O' M' x L (aRise L z i a b).2.1 (aRise L z i a b).2.2.1 (aRise L z i a b).2.2.2 → Fr (SN m) O O' M M' → Q (some (.long (aRise L z i a b).1)) M' k n
  | _ => False
theorem okX6_rise : OkX6_rise sp_X6_rise := by
  refine inX6_rise csoX6_rise ?_
  intro as M k n Q hsp
  unfold sp_X6_rise at hsp
  split at hsp
  rotate_left
  · exact hsp.elim
  rename_i x i a b
  obtain ⟨O, L, z, m, hN, hm, hwf, hq⟩ := hsp
  have k0 := hN.1.1.1
  have kR := hN.1.1
  obtain ⟨z1, z2, z3, z4⟩ := hN.ks
  have gr := hN.1.1.2.2.1
  have qr := hN.1.1.2.2.2
  refine ⟨0, 0, Nat.zero_le _, Nat.zero_le _, Nat.le_of_ble_eq_true rfl, fun G hG => ?_⟩
  unfold aRise at hq
  rcases hN.sa i with ⟨h1, h2⟩ | ⟨i', S, h1, rfl, h3, h4, h5, h6⟩
  · rw [h1] at hq
    refine e_g2 hG [] 40 ?_
    simp only [e_wp_s, Option.getD_some, Option.isSome_some, Option.isSome_none, xis0, xis1, xis2, xis3, xis4, e_ks, lk_k, lk_c, List.lookup_nil, gt_c, vi_i, k1_n, k1_c, k2_n, k2_c, ar_n, ar_c, pk_n, pk_c, rm_0, rm_1, rm_2, rm_3, rm_4, rm_5, rc_9, rcs, fvs, rf_s, rf_n, isI_i, isL_l, isR_r, isR_n, isR_q, ct_i, ct_l, ct_r, ct_n, ct_q, tFs, tCs, tKs, tJs, tSs, e_nf, lgs, ↓reduceIte, true_and, and_true, false_and, and_false, or_true, true_or, false_or, or_false, Nat.reduceAdd, Nat.reduceEqDiff, Nat.reduceDiv, Nat.reduceLT, Nat.reduceLeDiff, Nat.zero_add, reduceCtorEq, Bool.false_eq_true, Option.toList_some, Option.toList_none, List.cons_append, List.nil_append, not_true_eq_false, not_false_eq_true, Nat.sub_zero, dsX6_rise, jsX6_rise, xcX6_rise, k0, kR, h2, ↓sp_X6_seriesAt]
    exact hq O M hN Fr.rf
  · simp only [h1] at hq
    have s0 := h5.1.1.1
    have sk : mI M 128 (sA M x i') = S.1 := h5.2.1.1
    obtain ⟨w1, w2, w3⟩ := hwf S (List.mem_of_getElem? h3)
    obtain ⟨n1, n2, n3, n4, n5, n6, n7⟩ := hN.beg a b
    by_cases c1 : ¬ a < 0 ∧ a < b
    · by_cases c2 : S.1 = 3
      · rw [if_pos ⟨c1, c2⟩] at hq
        refine e_g2 hG [(42, [0, 2, 4])] 60 ?_
        simp only [e_wp_s, Option.getD_some, Option.isSome_some, Option.isSome_none, xis0, xis1, xis2, xis3, xis4, e_ks, lk_k, lk_c, List.lookup_nil, gt_c, vi_i, k1_n, k1_c, k2_n, k2_c, ar_n, ar_c, pk_n, pk_c, rm_0, rm_1, rm_2, rm_3, rm_4, rm_5, rc_9, rcs, fvs, rf_s, rf_n, isI_i, isL_l, isR_r, isR_n, isR_q, ct_i, ct_l, ct_r, ct_n, ct_q, tFs, tCs, tKs, tJs, tSs, e_nf, lgs, ↓reduceIte, true_and, and_true, false_and, and_false, or_true, true_or, false_or, or_false, Nat.reduceAdd, Nat.reduceEqDiff, Nat.reduceDiv, Nat.reduceLT, Nat.reduceLeDiff, Nat.zero_add, reduceCtorEq, Bool.false_eq_true, Option.toList_some, Option.toList_none, List.cons_append, List.nil_append, not_true_eq_false, not_false_eq_true, Nat.sub_zero, dsX6_rise, jsX6_rise, xcX6_rise, k0, kR, qr, z3, h4, s0, sk, c1, c2, i10, ↓sp_X6_seriesAt, ↓sp_X6_isWindow, ↓sp_X2_begin]
        obtain ⟨y1, y2, y3, y4⟩ := n1.ks
        have x1 := n1.1.1.1
        have gr1 : mR (qbM M (qA M x) a b) 194 x = some (gA M x) := by rw [← n4]; exact n1.1.1.2.2.1
        have qr1 : mR (qbM M (qA M x) a b) 195 x = some (qA M x) := by rw [← n5]; exact n1.1.1.2.2.2
        have q3 := n2.1
        have hg1 := n1.2.2.2.2.1
        rw [n4] at hg1
        have hq1 := n1.2.2.2.2.2.1
        rw [n5] at hq1
        have hS1 := (n1.2.2.1 i' S h3).2
        rw [n7] at hS1
        have e1 : qA M x ≠ sA M x i' := fun e => by have := z4 i' S h3; rw [← e, z3] at this; cases this
        have e2 : gA M x ≠ sA M x i' := fun e => by have := z4 i' S h3; rw [← e, z2] at this; cases this
        have e3 : qA M x ≠ gA M x := fun e => by rw [e, z2] at z3; cases z3
        have hF0 := fr_SN n3 hm (by rw [z3]; decide)
        generalize qbM M (qA M x) a b = B at *
        refine e_g2 hG [(56, [0])] 60 ?_
        simp only [e_wp_s, Option.getD_some, Option.isSome_some, Option.isSome_none, xis0, xis1, xis2, xis3, xis4, e_ks, lk_k, lk_c, List.lookup_nil, gt_c, vi_i, k1_n, k1_c, k2_n, k2_c, ar_n, ar_c, pk_n, pk_c, rm_0, rm_1, rm_2, rm_3, rm_4, rm_5, rc_9, rcs, fvs, rf_s, rf_n, isI_i, isL_l, isR_r, isR_n, isR_q, ct_i, ct_l, ct_r, ct_n, ct_q, tFs, tCs, tKs, tJs, tSs, e_nf, lgs, ↓reduceIte, true_and, and_true, false_and, and_false, or_true, true_or, false_or, or_false, Nat.reduceAdd, Nat.reduceEqDiff, Nat.reduceDiv, Nat.reduceLT, Nat.reduceLeDiff, Nat.zero_add, reduceCtorEq, Bool.false_eq_true, Option.toList_some, Option.toList_none, List.cons_append, List.nil_append, not_true_eq_false, not_false_eq_true, Nat.sub_zero, dsX6_rise, jsX6_rise, xcX6_rise, x1, gr1, qr1, q3]
        refine ⟨O, qA M x, gA M x, a, b, q0, 0, 0, 0, _, _, _, _, _, n2, hS1, hg1, ⟨hq1, e1, e2, e3⟩, w1, w2, fun M2 hQ2 hP2 hF2 => ?_⟩
        have hF2' : Fr (S2r (qA B x) (gA B x)) O O B M2 := by rw [n4, n5]; exact hF2
        have hN2 := n1.qst hF2' (by rw [n4]; exact hP2.w) (by rw [n5]; exact hQ2)
        simp only [Nat.zero_add] at hN2
        have hb2 := n1.base hF2' (fun c o ho e => e.elim (fun e => by
          have : x = qA B x := ho.symm.trans e
          rw [← this, y1] at y3; cases y3) (fun e => by
          have : x = gA B x := ho.symm.trans e
          rw [← this, y1] at y2; cases y2))
        have x2 := hN2.1.1.1
        have gr2 : mR M2 194 x = some (gA M x) := by rw [← n4, ← hb2.2.2.2.1]; exact hN2.1.1.2.2.1
        have qr2 : mR M2 195 x = some (qA M x) := by rw [← n5, ← hb2.2.2.2.2.1]; exact hN2.1.1.2.2.2
        have hFin := hF0.tr (fr2_SN hF2 (SN.k hF0 hm) (by rw [q3]; decide) (by rw [← n4, y2]; decide))
        have hq := hq O M2 hN2 hFin
        have g2 := hP2.1.1
        refine e_g2 hG [] 60 ?_
        simp only [e_wp_s, Option.getD_some, Option.isSome_some, Option.isSome_none, xis0, xis1, xis2, xis3, xis4, e_ks, lk_k, lk_c, List.lookup_nil, gt_c, vi_i, k1_n, k1_c, k2_n, k2_c, ar_n, ar_c, pk_n, pk_c, rm_0, rm_1, rm_2, rm_3, rm_4, rm_5, rc_9, rcs, fvs, rf_s, rf_n, isI_i, isL_l, isR_r, isR_n, isR_q, ct_i, ct_l, ct_r, ct_n, ct_q, tFs, tCs, tKs, tJs, tSs, e_nf, lgs, ↓reduceIte, true_and, and_true, false_and, and_false, or_true, true_or, false_or, or_false, Nat.reduceAdd, Nat.reduceEqDiff, Nat.reduceDiv, Nat.reduceLT, Nat.reduceLeDiff, Nat.zero_add, reduceCtorEq, Bool.false_eq_true, Option.toList_some, Option.toList_none, List.cons_append, List.nil_append, not_true_eq_false, not_false_eq_true, Nat.sub_zero, dsX6_rise, jsX6_rise, xcX6_rise, x2, gr2, g2, ↓sp_X1_risen]
        exact ⟨O, gA M x, _, hP2, hq⟩
      · rw [if_neg (fun z => c2 z.2)] at hq
        refine e_g2 hG [] 60 ?_
        simp only [e_wp_s, Option.getD_some, Option.isSome_some, Option.isSome_none, xis0, xis1, xis2, xis3, xis4, e_ks, lk_k, lk_c, List.lookup_nil, gt_c, vi_i, k1_n, k1_c, k2_n, k2_c, ar_n, ar_c, pk_n, pk_c, rm_0, rm_1, rm_2, rm_3, rm_4, rm_5, rc_9, rcs, fvs, rf_s, rf_n, isI_i, isL_l, isR_r, isR_n, isR_q, ct_i, ct_l, ct_r, ct_n, ct_q, tFs, tCs, tKs, tJs, tSs, e_nf, lgs, ↓reduceIte, true_and, and_true, false_and, and_false, or_true, true_or, false_or, or_false, Nat.reduceAdd, Nat.reduceEqDiff, Nat.reduceDiv, Nat.reduceLT, Nat.reduceLeDiff, Nat.zero_add, reduceCtorEq, Bool.false_eq_true, Option.toList_some, Option.toList_none, List.cons_append, List.nil_append, not_true_eq_false, not_false_eq_true, Nat.sub_zero, dsX6_rise, jsX6_rise, xcX6_rise, k0, kR, h4, s0, sk, c1, c2, i10, ↓sp_X6_seriesAt, ↓sp_X6_isWindow]
        exact hq O M hN Fr.rf
    · rw [if_neg (fun z => c1 z.1)] at hq
      refine e_g2 hG [] 60 ?_
      simp only [e_wp_s, Option.getD_some, Option.isSome_some, Option.isSome_none, xis0, xis1, xis2, xis3, xis4, e_ks, lk_k, lk_c, List.lookup_nil, gt_c, vi_i, k1_n, k1_c, k2_n, k2_c, ar_n, ar_c, pk_n, pk_c, rm_0, rm_1, rm_2, rm_3, rm_4, rm_5, rc_9, rcs, fvs, rf_s, rf_n, isI_i, isL_l, isR_r, isR_n, isR_q, ct_i, ct_l, ct_r, ct_n, ct_q, tFs, tCs, tKs, tJs, tSs, e_nf, lgs, ↓reduceIte, true_and, and_true, false_and, and_false, or_true, true_or, false_or, or_false, Nat.reduceAdd, Nat.reduceEqDiff, Nat.reduceDiv, Nat.reduceLT, Nat.reduceLeDiff, Nat.zero_add, reduceCtorEq, Bool.false_eq_true, Option.toList_some, Option.toList_none, List.cons_append, List.nil_append, not_true_eq_false, not_false_eq_true, Nat.sub_zero, dsX6_rise, jsX6_rise, xcX6_rise, k0, kR, h4, c1, i10, ↓sp_X6_seriesAt, ↓sp_X6_isWindow]
      exact hq O M hN Fr.rf
def aLevel (L : List SER) (z : Nat × Nat × Nat) (i a b : Int32) (v : Int64) : Int64 × Nat × Nat × Nat := match ser L i with
  | none => (NOv, z)
  | some S => if (¬ a < 0 ∧ a < b) ∧ S.1 = 2 then (tmA v a b (gth S.2.2.2.2 0 b (mpts (S.2.2.2.1.filter (unr 0 b)))), lookP S 0 a b) else (NOv, z)
def csX6_level : CS := (cs_c 0 38 2 6 sp_X6_seriesAt (cs_c 2 214 2 9 sp_X6_isWindow (cs_c 0 217 3 2 sp_X2_begin (cs_c 0 230 4 2 sp_X2_lookByPoints (cs_c 0 238 4 1 sp_X1_timeAt cs_0)))))
theorem csoX6_level : ∀ op x na cl sp, csX6_level op x = some (na, cl, sp) → CallOK 6 6 136 op x na cl sp := (cs_c_ok (caX6_level_38 okX6_seriesAt) (cs_c_ok (caX6_level_214 okX6_isWindow) (cs_c_ok (caX6_level_217 okX2_begin) (cs_c_ok (caX6_level_230 okX2_lookByPoints) (cs_c_ok (caX6_level_238 okX1_timeAt) cs_0_ok)))))
theorem xcX6_level : (∀ (Q : QT) (G : GT) (pc : Nat) (L : LV) (a0 a1 : Value) (r : List Value) (M : HM) (k n : Nat), ex_i 6 7 2 false csX6_level Q G (.invokevirtual 38) pc L (a1 :: a0 :: r) M k n = (e_rm r ∧ e_rc M 6 [a0, a1] ∧ sp_X6_seriesAt [a0, a1] M k n (fun v M' k' n' => G (pc + 3) L (v.toList ++ r) M' k' n'))) ∧ (∀ (Q : QT) (G : GT) (pc : Nat) (L : LV) (a0 a1 : Value) (r : List Value) (M : HM) (k n : Nat), ex_i 6 7 2 false csX6_level Q G (.invokestatic 214) pc L (a1 :: a0 :: r) M k n = (e_rm r ∧ e_rc M 9 [a0, a1] ∧ sp_X6_isWindow [a0, a1] M k n (fun v M' k' n' => G (pc + 3) L (v.toList ++ r) M' k' n'))) ∧ (∀ (Q : QT) (G : GT) (pc : Nat) (L : LV) (a0 a1 a2 : Value) (r : List Value) (M : HM) (k n : Nat), ex_i 6 7 2 false csX6_level Q G (.invokevirtual 217) pc L (a2 :: a1 :: a0 :: r) M k n = (e_rm r ∧ e_rc M 2 [a0, a1, a2] ∧ sp_X2_begin [a0, a1, a2] M k n (fun v M' k' n' => G (pc + 3) L (v.toList ++ r) M' k' n'))) ∧ (∀ (Q : QT) (G : GT) (pc : Nat) (L : LV) (a0 a1 a2 a3 : Value) (r : List Value) (M : HM) (k n : Nat), ex_i 6 7 2 false csX6_level Q G (.invokevirtual 230) pc L (a3 :: a2 :: a1 :: a0 :: r) M k n = (e_rm r ∧ e_rc M 2 [a0, a1, a2, a3] ∧ sp_X2_lookByPoints [a0, a1, a2, a3] M k n (fun v M' k' n' => G (pc + 3) L (v.toList ++ r) M' k' n'))) ∧ (∀ (Q : QT) (G : GT) (pc : Nat) (L : LV) (a0 a1 a2 a3 : Value) (r : List Value) (M : HM) (k n : Nat), ex_i 6 7 2 false csX6_level Q G (.invokevirtual 238) pc L (a3 :: a2 :: a1 :: a0 :: r) M k n = (e_rm r ∧ e_rc M 1 [a0, a1, a2, a3] ∧ sp_X1_timeAt [a0, a1, a2, a3] M k n (fun v M' k' n' => G (pc + 3) L (v.toList ++ r) M' k' n'))) := ⟨(fun _ _ _ _ _ _ _ _ _ _ => xv0_2 rfl), (fun _ _ _ _ _ _ _ _ _ _ => xv2_2 rfl), (fun _ _ _ _ _ _ _ _ _ _ _ => xv0_3 rfl), (fun _ _ _ _ _ _ _ _ _ _ _ _ => xv0_4 rfl), (fun _ _ _ _ _ _ _ _ _ _ _ _ => xv0_4 rfl)⟩
def sp_X6_level : SP := fun as M k n Q => match as with
  | [.ref x, .int i, .int a, .int b, .long v] => ∃ O L z m, NRep O M x L z.1 z.2.1 z.2.2 ∧ mK M m = 8 ∧ wf1 L ∧ ∀ O' M', NRep O' M' x L (aLevel L z i a b v).2.1 (aLevel L z i a b v).2.2.1 (aLevel L z i a b v).2.2.2 → Fr (SN m) O O' M M' → Q (some (.long (aLevel L z i a b v).1)) M' k n
  | _ => False
theorem okX6_level : OkX6_level sp_X6_level := by
  refine inX6_level csoX6_level ?_
  intro as M k n Q hsp
  unfold sp_X6_level at hsp
  split at hsp
  rotate_left
  · exact hsp.elim
  rename_i x i a b v
  obtain ⟨O, L, z, m, hN, hm, hwf, hq⟩ := hsp
  have k0 := hN.1.1.1
  have kR := hN.1.1
  obtain ⟨z1, z2, z3, z4⟩ := hN.ks
  have gr := hN.1.1.2.2.1
  have qr := hN.1.1.2.2.2
  refine ⟨0, 0, Nat.zero_le _, Nat.zero_le _, Nat.le_of_ble_eq_true rfl, fun G hG => ?_⟩
  unfold aLevel at hq
  rcases hN.sa i with ⟨h1, h2⟩ | ⟨i', S, h1, rfl, h3, h4, h5, h6⟩
  · rw [h1] at hq
    refine e_g2 hG [] 40 ?_
    simp only [e_wp_s, Option.getD_some, Option.isSome_some, Option.isSome_none, xis0, xis1, xis2, xis3, xis4, e_ks, lk_k, lk_c, List.lookup_nil, gt_c, vi_i, k1_n, k1_c, k2_n, k2_c, ar_n, ar_c, pk_n, pk_c, rm_0, rm_1, rm_2, rm_3, rm_4, rm_5, rc_9, rcs, fvs, rf_s, rf_n, isI_i, isL_l, isR_r, isR_n, isR_q, ct_i, ct_l, ct_r, ct_n, ct_q, tFs, tCs, tKs, tJs, tSs, e_nf, lgs, ↓reduceIte, true_and, and_true, false_and, and_false, or_true, true_or, false_or, or_false, Nat.reduceAdd, Nat.reduceEqDiff, Nat.reduceDiv, Nat.reduceLT, Nat.reduceLeDiff, Nat.zero_add, reduceCtorEq, Bool.false_eq_true, Option.toList_some, Option.toList_none, List.cons_append, List.nil_append, not_true_eq_false, not_false_eq_true, Nat.sub_zero, dsX6_level, jsX6_level, xcX6_level, k0, kR, h2, ↓sp_X6_seriesAt]
    exact hq O M hN Fr.rf
  · simp only [h1] at hq
    have s0 := h5.1.1.1
    have sk : mI M 128 (sA M x i') = S.1 := h5.2.1.1
    obtain ⟨w1, w2, w3⟩ := hwf S (List.mem_of_getElem? h3)
    obtain ⟨n1, n2, n3, n4, n5, n6, n7⟩ := hN.beg a b
    by_cases c1 : ¬ a < 0 ∧ a < b
    · by_cases c2 : S.1 = 2
      · rw [if_pos ⟨c1, c2⟩] at hq
        refine e_g2 hG [(42, [0, 2, 3, 4, 6])] 60 ?_
        simp only [e_wp_s, Option.getD_some, Option.isSome_some, Option.isSome_none, xis0, xis1, xis2, xis3, xis4, e_ks, lk_k, lk_c, List.lookup_nil, gt_c, vi_i, k1_n, k1_c, k2_n, k2_c, ar_n, ar_c, pk_n, pk_c, rm_0, rm_1, rm_2, rm_3, rm_4, rm_5, rc_9, rcs, fvs, rf_s, rf_n, isI_i, isL_l, isR_r, isR_n, isR_q, ct_i, ct_l, ct_r, ct_n, ct_q, tFs, tCs, tKs, tJs, tSs, e_nf, lgs, ↓reduceIte, true_and, and_true, false_and, and_false, or_true, true_or, false_or, or_false, Nat.reduceAdd, Nat.reduceEqDiff, Nat.reduceDiv, Nat.reduceLT, Nat.reduceLeDiff, Nat.zero_add, reduceCtorEq, Bool.false_eq_true, Option.toList_some, Option.toList_none, List.cons_append, List.nil_append, not_true_eq_false, not_false_eq_true, Nat.sub_zero, dsX6_level, jsX6_level, xcX6_level, k0, kR, qr, z3, h4, s0, sk, c1, c2, i10, ↓sp_X6_seriesAt, ↓sp_X6_isWindow, ↓sp_X2_begin]
        obtain ⟨y1, y2, y3, y4⟩ := n1.ks
        have x1 := n1.1.1.1
        have gr1 : mR (qbM M (qA M x) a b) 194 x = some (gA M x) := by rw [← n4]; exact n1.1.1.2.2.1
        have qr1 : mR (qbM M (qA M x) a b) 195 x = some (qA M x) := by rw [← n5]; exact n1.1.1.2.2.2
        have q3 := n2.1
        have hg1 := n1.2.2.2.2.1
        rw [n4] at hg1
        have hq1 := n1.2.2.2.2.2.1
        rw [n5] at hq1
        have hS1 := (n1.2.2.1 i' S h3).2
        rw [n7] at hS1
        have e1 : qA M x ≠ sA M x i' := fun e => by have := z4 i' S h3; rw [← e, z3] at this; cases this
        have e2 : gA M x ≠ sA M x i' := fun e => by have := z4 i' S h3; rw [← e, z2] at this; cases this
        have e3 : qA M x ≠ gA M x := fun e => by rw [e, z2] at z3; cases z3
        have hF0 := fr_SN n3 hm (by rw [z3]; decide)
        generalize qbM M (qA M x) a b = B at *
        refine e_g2 hG [(56, [0, 2, 3, 4])] 60 ?_
        simp only [e_wp_s, Option.getD_some, Option.isSome_some, Option.isSome_none, xis0, xis1, xis2, xis3, xis4, e_ks, lk_k, lk_c, List.lookup_nil, gt_c, vi_i, k1_n, k1_c, k2_n, k2_c, ar_n, ar_c, pk_n, pk_c, rm_0, rm_1, rm_2, rm_3, rm_4, rm_5, rc_9, rcs, fvs, rf_s, rf_n, isI_i, isL_l, isR_r, isR_n, isR_q, ct_i, ct_l, ct_r, ct_n, ct_q, tFs, tCs, tKs, tJs, tSs, e_nf, lgs, ↓reduceIte, true_and, and_true, false_and, and_false, or_true, true_or, false_or, or_false, Nat.reduceAdd, Nat.reduceEqDiff, Nat.reduceDiv, Nat.reduceLT, Nat.reduceLeDiff, Nat.zero_add, reduceCtorEq, Bool.false_eq_true, Option.toList_some, Option.toList_none, List.cons_append, List.nil_append, not_true_eq_false, not_false_eq_true, Nat.sub_zero, dsX6_level, jsX6_level, xcX6_level, x1, gr1, qr1, q3]
        refine ⟨O, qA M x, gA M x, a, b, q0, 0, 0, 0, _, _, _, _, _, n2, hS1, hg1, ⟨hq1, e1, e2, e3⟩, w1, w2, fun M2 hQ2 hP2 hF2 => ?_⟩
        have hF2' : Fr (S2r (qA B x) (gA B x)) O O B M2 := by rw [n4, n5]; exact hF2
        have hN2 := n1.qst hF2' (by rw [n4]; exact hP2.w) (by rw [n5]; exact hQ2)
        simp only [Nat.zero_add] at hN2
        have hb2 := n1.base hF2' (fun c o ho e => e.elim (fun e => by
          have : x = qA B x := ho.symm.trans e
          rw [← this, y1] at y3; cases y3) (fun e => by
          have : x = gA B x := ho.symm.trans e
          rw [← this, y1] at y2; cases y2))
        have x2 := hN2.1.1.1
        have gr2 : mR M2 194 x = some (gA M x) := by rw [← n4, ← hb2.2.2.2.1]; exact hN2.1.1.2.2.1
        have qr2 : mR M2 195 x = some (qA M x) := by rw [← n5, ← hb2.2.2.2.2.1]; exact hN2.1.1.2.2.2
        have hFin := hF0.tr (fr2_SN hF2 (SN.k hF0 hm) (by rw [q3]; decide) (by rw [← n4, y2]; decide))
        have hq := hq O M2 hN2 hFin
        have g2 := hP2.1.1
        refine e_g2 hG [] 60 ?_
        simp only [e_wp_s, Option.getD_some, Option.isSome_some, Option.isSome_none, xis0, xis1, xis2, xis3, xis4, e_ks, lk_k, lk_c, List.lookup_nil, gt_c, vi_i, k1_n, k1_c, k2_n, k2_c, ar_n, ar_c, pk_n, pk_c, rm_0, rm_1, rm_2, rm_3, rm_4, rm_5, rc_9, rcs, fvs, rf_s, rf_n, isI_i, isL_l, isR_r, isR_n, isR_q, ct_i, ct_l, ct_r, ct_n, ct_q, tFs, tCs, tKs, tJs, tSs, e_nf, lgs, ↓reduceIte, true_and, and_true, false_and, and_false, or_true, true_or, false_or, or_false, Nat.reduceAdd, Nat.reduceEqDiff, Nat.reduceDiv, Nat.reduceLT, Nat.reduceLeDiff, Nat.zero_add, reduceCtorEq, Bool.false_eq_true, Option.toList_some, Option.toList_none, List.cons_append, List.nil_append, not_true_eq_false, not_false_eq_true, Nat.sub_zero, dsX6_level, jsX6_level, xcX6_level, x2, gr2, g2, ↓sp_X1_timeAt]
        exact ⟨O, gA M x, _, hP2, hq⟩
      · rw [if_neg (fun z => c2 z.2)] at hq
        refine e_g2 hG [] 60 ?_
        simp only [e_wp_s, Option.getD_some, Option.isSome_some, Option.isSome_none, xis0, xis1, xis2, xis3, xis4, e_ks, lk_k, lk_c, List.lookup_nil, gt_c, vi_i, k1_n, k1_c, k2_n, k2_c, ar_n, ar_c, pk_n, pk_c, rm_0, rm_1, rm_2, rm_3, rm_4, rm_5, rc_9, rcs, fvs, rf_s, rf_n, isI_i, isL_l, isR_r, isR_n, isR_q, ct_i, ct_l, ct_r, ct_n, ct_q, tFs, tCs, tKs, tJs, tSs, e_nf, lgs, ↓reduceIte, true_and, and_true, false_and, and_false, or_true, true_or, false_or, or_false, Nat.reduceAdd, Nat.reduceEqDiff, Nat.reduceDiv, Nat.reduceLT, Nat.reduceLeDiff, Nat.zero_add, reduceCtorEq, Bool.false_eq_true, Option.toList_some, Option.toList_none, List.cons_append, List.nil_append, not_true_eq_false, not_false_eq_true, Nat.sub_zero, dsX6_level, jsX6_level, xcX6_level, k0, kR, h4, s0, sk, c1, c2, i10, ↓sp_X6_seriesAt, ↓sp_X6_isWindow]
        exact hq O M hN Fr.rf
    · rw [if_neg (fun z => c1 z.1)] at hq
      refine e_g2 hG [] 60 ?_
      simp only [e_wp_s, Option.getD_some, Option.isSome_some, Option.isSome_none, xis0, xis1, xis2, xis3, xis4, e_ks, lk_k, lk_c, List.lookup_nil, gt_c, vi_i, k1_n, k1_c, k2_n, k2_c, ar_n, ar_c, pk_n, pk_c, rm_0, rm_1, rm_2, rm_3, rm_4, rm_5, rc_9, rcs, fvs, rf_s, rf_n, isI_i, isL_l, isR_r, isR_n, isR_q, ct_i, ct_l, ct_r, ct_n, ct_q, tFs, tCs, tKs, tJs, tSs, e_nf, lgs, ↓reduceIte, true_and, and_true, false_and, and_false, or_true, true_or, false_or, or_false, Nat.reduceAdd, Nat.reduceEqDiff, Nat.reduceDiv, Nat.reduceLT, Nat.reduceLeDiff, Nat.zero_add, reduceCtorEq, Bool.false_eq_true, Option.toList_some, Option.toList_none, List.cons_append, List.nil_append, not_true_eq_false, not_false_eq_true, Nat.sub_zero, dsX6_level, jsX6_level, xcX6_level, k0, kR, h4, c1, i10, ↓sp_X6_seriesAt, ↓sp_X6_isWindow]
      exact hq O M hN Fr.rf
def valF (l : List PT) (ms : Int32) : Int64 := match (if ms = 0 then l.head? else l.getLast?) with
  | none => NOv
  | some p => p.2
def aValue (L : List SER) (z : Nat × Nat × Nat) (i a b ms : Int32) : Int64 × Nat × Nat × Nat := match ser L i with
  | none => (NOv, z)
  | some S => if ¬ a < 0 ∧ a < b then (valF (gth S.2.2.2.2 a b (mpts (S.2.2.2.1.filter (unr a b)))) ms, lookP S a a b) else (NOv, z)
def csX6_value : CS := (cs_c 0 38 2 6 sp_X6_seriesAt (cs_c 2 214 2 9 sp_X6_isWindow (cs_c 0 217 3 2 sp_X2_begin (cs_c 0 230 4 2 sp_X2_lookByPoints (cs_c 0 242 2 1 sp_X1_valueAt cs_0)))))
theorem csoX6_value : ∀ op x na cl sp, csX6_value op x = some (na, cl, sp) → CallOK 6 6 136 op x na cl sp := (cs_c_ok (caX6_value_38 okX6_seriesAt) (cs_c_ok (caX6_value_214 okX6_isWindow) (cs_c_ok (caX6_value_217 okX2_begin) (cs_c_ok (caX6_value_230 okX2_lookByPoints) (cs_c_ok (caX6_value_242 okX1_valueAt) cs_0_ok)))))
theorem xcX6_value : (∀ (Q : QT) (G : GT) (pc : Nat) (L : LV) (a0 a1 : Value) (r : List Value) (M : HM) (k n : Nat), ex_i 6 6 2 false csX6_value Q G (.invokevirtual 38) pc L (a1 :: a0 :: r) M k n = (e_rm r ∧ e_rc M 6 [a0, a1] ∧ sp_X6_seriesAt [a0, a1] M k n (fun v M' k' n' => G (pc + 3) L (v.toList ++ r) M' k' n'))) ∧ (∀ (Q : QT) (G : GT) (pc : Nat) (L : LV) (a0 a1 : Value) (r : List Value) (M : HM) (k n : Nat), ex_i 6 6 2 false csX6_value Q G (.invokestatic 214) pc L (a1 :: a0 :: r) M k n = (e_rm r ∧ e_rc M 9 [a0, a1] ∧ sp_X6_isWindow [a0, a1] M k n (fun v M' k' n' => G (pc + 3) L (v.toList ++ r) M' k' n'))) ∧ (∀ (Q : QT) (G : GT) (pc : Nat) (L : LV) (a0 a1 a2 : Value) (r : List Value) (M : HM) (k n : Nat), ex_i 6 6 2 false csX6_value Q G (.invokevirtual 217) pc L (a2 :: a1 :: a0 :: r) M k n = (e_rm r ∧ e_rc M 2 [a0, a1, a2] ∧ sp_X2_begin [a0, a1, a2] M k n (fun v M' k' n' => G (pc + 3) L (v.toList ++ r) M' k' n'))) ∧ (∀ (Q : QT) (G : GT) (pc : Nat) (L : LV) (a0 a1 a2 a3 : Value) (r : List Value) (M : HM) (k n : Nat), ex_i 6 6 2 false csX6_value Q G (.invokevirtual 230) pc L (a3 :: a2 :: a1 :: a0 :: r) M k n = (e_rm r ∧ e_rc M 2 [a0, a1, a2, a3] ∧ sp_X2_lookByPoints [a0, a1, a2, a3] M k n (fun v M' k' n' => G (pc + 3) L (v.toList ++ r) M' k' n'))) ∧ (∀ (Q : QT) (G : GT) (pc : Nat) (L : LV) (a0 a1 : Value) (r : List Value) (M : HM) (k n : Nat), ex_i 6 6 2 false csX6_value Q G (.invokevirtual 242) pc L (a1 :: a0 :: r) M k n = (e_rm r ∧ e_rc M 1 [a0, a1] ∧ sp_X1_valueAt [a0, a1] M k n (fun v M' k' n' => G (pc + 3) L (v.toList ++ r) M' k' n'))) := ⟨(fun _ _ _ _ _ _ _ _ _ _ => xv0_2 rfl), (fun _ _ _ _ _ _ _ _ _ _ => xv2_2 rfl), (fun _ _ _ _ _ _ _ _ _ _ _ => xv0_3 rfl), (fun _ _ _ _ _ _ _ _ _ _ _ _ => xv0_4 rfl), (fun _ _ _ _ _ _ _ _ _ _ => xv0_2 rfl)⟩
def sp_X6_value : SP := fun as M k n Q => match as with
  | [.ref x, .int i, .int a, .int b, .int ms] => ∃ O L z m, NRep O M x L z.1 z.2.1 z.2.2 ∧ mK M m = 8 ∧ wf1 L ∧ ∀ O' M', NRep O' M' x L (aValue L z i a b ms).2.1 (aValue L z i a b ms).2.2.1 (aValue L z i a b ms).2.2.2 → Fr (SN m) O O' M M' → Q (some (.long (aValue L z i a b ms).1)) M' k n
  | _ => False
theorem okX6_value : OkX6_value sp_X6_value := by
  refine inX6_value csoX6_value ?_
  intro as M k n Q hsp
  unfold sp_X6_value at hsp
  split at hsp
  rotate_left
  · exact hsp.elim
  rename_i x i a b ms
  obtain ⟨O, L, z, m, hN, hm, hwf, hq⟩ := hsp
  have k0 := hN.1.1.1
  have kR := hN.1.1
  obtain ⟨z1, z2, z3, z4⟩ := hN.ks
  have gr := hN.1.1.2.2.1
  have qr := hN.1.1.2.2.2
  refine ⟨0, 0, Nat.zero_le _, Nat.zero_le _, Nat.le_of_ble_eq_true rfl, fun G hG => ?_⟩
  unfold aValue at hq
  rcases hN.sa i with ⟨h1, h2⟩ | ⟨i', S, h1, rfl, h3, h4, h5, h6⟩
  · rw [h1] at hq
    refine e_g2 hG [] 40 ?_
    simp only [e_wp_s, Option.getD_some, Option.isSome_some, Option.isSome_none, xis0, xis1, xis2, xis3, xis4, e_ks, lk_k, lk_c, List.lookup_nil, gt_c, vi_i, k1_n, k1_c, k2_n, k2_c, ar_n, ar_c, pk_n, pk_c, rm_0, rm_1, rm_2, rm_3, rm_4, rm_5, rc_9, rcs, fvs, rf_s, rf_n, isI_i, isL_l, isR_r, isR_n, isR_q, ct_i, ct_l, ct_r, ct_n, ct_q, tFs, tCs, tKs, tJs, tSs, e_nf, lgs, ↓reduceIte, true_and, and_true, false_and, and_false, or_true, true_or, false_or, or_false, Nat.reduceAdd, Nat.reduceEqDiff, Nat.reduceDiv, Nat.reduceLT, Nat.reduceLeDiff, Nat.zero_add, reduceCtorEq, Bool.false_eq_true, Option.toList_some, Option.toList_none, List.cons_append, List.nil_append, not_true_eq_false, not_false_eq_true, Nat.sub_zero, dsX6_value, jsX6_value, xcX6_value, k0, kR, h2, ↓sp_X6_seriesAt]
    exact hq O M hN Fr.rf
  · simp only [h1] at hq
    have s0 := h5.1.1.1
    have sk : mI M 128 (sA M x i') = S.1 := h5.2.1.1
    obtain ⟨w1, w2, w3⟩ := hwf S (List.mem_of_getElem? h3)
    obtain ⟨n1, n2, n3, n4, n5, n6, n7⟩ := hN.beg a b
    by_cases c1 : ¬ a < 0 ∧ a < b
    · rw [if_pos c1] at hq
      refine e_g2 hG [(33, [0, 2, 4, 5])] 60 ?_
      simp only [e_wp_s, Option.getD_some, Option.isSome_some, Option.isSome_none, xis0, xis1, xis2, xis3, xis4, e_ks, lk_k, lk_c, List.lookup_nil, gt_c, vi_i, k1_n, k1_c, k2_n, k2_c, ar_n, ar_c, pk_n, pk_c, rm_0, rm_1, rm_2, rm_3, rm_4, rm_5, rc_9, rcs, fvs, rf_s, rf_n, isI_i, isL_l, isR_r, isR_n, isR_q, ct_i, ct_l, ct_r, ct_n, ct_q, tFs, tCs, tKs, tJs, tSs, e_nf, lgs, ↓reduceIte, true_and, and_true, false_and, and_false, or_true, true_or, false_or, or_false, Nat.reduceAdd, Nat.reduceEqDiff, Nat.reduceDiv, Nat.reduceLT, Nat.reduceLeDiff, Nat.zero_add, reduceCtorEq, Bool.false_eq_true, Option.toList_some, Option.toList_none, List.cons_append, List.nil_append, not_true_eq_false, not_false_eq_true, Nat.sub_zero, dsX6_value, jsX6_value, xcX6_value, k0, kR, qr, z3, h4, s0, sk, c1, i10, ↓sp_X6_seriesAt, ↓sp_X6_isWindow, ↓sp_X2_begin]
      obtain ⟨y1, y2, y3, y4⟩ := n1.ks
      have x1 := n1.1.1.1
      have gr1 : mR (qbM M (qA M x) a b) 194 x = some (gA M x) := by rw [← n4]; exact n1.1.1.2.2.1
      have qr1 : mR (qbM M (qA M x) a b) 195 x = some (qA M x) := by rw [← n5]; exact n1.1.1.2.2.2
      have q3 := n2.1
      have hg1 := n1.2.2.2.2.1
      rw [n4] at hg1
      have hq1 := n1.2.2.2.2.2.1
      rw [n5] at hq1
      have hS1 := (n1.2.2.1 i' S h3).2
      rw [n7] at hS1
      have e1 : qA M x ≠ sA M x i' := fun e => by have := z4 i' S h3; rw [← e, z3] at this; cases this
      have e2 : gA M x ≠ sA M x i' := fun e => by have := z4 i' S h3; rw [← e, z2] at this; cases this
      have e3 : qA M x ≠ gA M x := fun e => by rw [e, z2] at z3; cases z3
      have hF0 := fr_SN n3 hm (by rw [z3]; decide)
      generalize qbM M (qA M x) a b = B at *
      refine e_g2 hG [(47, [0, 4])] 60 ?_
      simp only [e_wp_s, Option.getD_some, Option.isSome_some, Option.isSome_none, xis0, xis1, xis2, xis3, xis4, e_ks, lk_k, lk_c, List.lookup_nil, gt_c, vi_i, k1_n, k1_c, k2_n, k2_c, ar_n, ar_c, pk_n, pk_c, rm_0, rm_1, rm_2, rm_3, rm_4, rm_5, rc_9, rcs, fvs, rf_s, rf_n, isI_i, isL_l, isR_r, isR_n, isR_q, ct_i, ct_l, ct_r, ct_n, ct_q, tFs, tCs, tKs, tJs, tSs, e_nf, lgs, ↓reduceIte, true_and, and_true, false_and, and_false, or_true, true_or, false_or, or_false, Nat.reduceAdd, Nat.reduceEqDiff, Nat.reduceDiv, Nat.reduceLT, Nat.reduceLeDiff, Nat.zero_add, reduceCtorEq, Bool.false_eq_true, Option.toList_some, Option.toList_none, List.cons_append, List.nil_append, not_true_eq_false, not_false_eq_true, Nat.sub_zero, dsX6_value, jsX6_value, xcX6_value, x1, gr1, qr1, q3]
      refine ⟨O, qA M x, gA M x, a, b, q0, 0, 0, 0, _, _, _, _, _, n2, hS1, hg1, ⟨hq1, e1, e2, e3⟩, w1, w2, fun M2 hQ2 hP2 hF2 => ?_⟩
      have hF2' : Fr (S2r (qA B x) (gA B x)) O O B M2 := by rw [n4, n5]; exact hF2
      have hN2 := n1.qst hF2' (by rw [n4]; exact hP2.w) (by rw [n5]; exact hQ2)
      simp only [Nat.zero_add] at hN2
      have hb2 := n1.base hF2' (fun c o ho e => e.elim (fun e => by
        have : x = qA B x := ho.symm.trans e
        rw [← this, y1] at y3; cases y3) (fun e => by
        have : x = gA B x := ho.symm.trans e
        rw [← this, y1] at y2; cases y2))
      have x2 := hN2.1.1.1
      have gr2 : mR M2 194 x = some (gA M x) := by rw [← n4, ← hb2.2.2.2.1]; exact hN2.1.1.2.2.1
      have qr2 : mR M2 195 x = some (qA M x) := by rw [← n5, ← hb2.2.2.2.2.1]; exact hN2.1.1.2.2.2
      have hFin := hF0.tr (fr2_SN hF2 (SN.k hF0 hm) (by rw [q3]; decide) (by rw [← n4, y2]; decide))
      have hq := hq O M2 hN2 hFin
      have g2 := hP2.1.1
      have gR := hP2.1
      have gc := hP2.2.2.1
      have gl := hP2.2.2.2.1
      change Q (some (.long (valF (gth S.2.2.2.2 a b (mpts (S.2.2.2.1.filter (unr a b)))) ms))) M2 k n at hq
      generalize hL : (gth S.2.2.2.2 a b (mpts (S.2.2.2.1.filter (unr a b)))) = l at *
      cases hl0 : l with
      | nil =>
        have u4 : nI l.length = 0 := by rw [hl0]; rfl
        have hv : valF l ms = NOv := by rw [hl0]; unfold valF; split <;> simp_all
        rw [hv] at hq
        refine e_g2 hG [] 60 ?_
        simp only [e_wp_s, Option.getD_some, Option.isSome_some, Option.isSome_none, xis0, xis1, xis2, xis3, xis4, e_ks, lk_k, lk_c, List.lookup_nil, gt_c, vi_i, k1_n, k1_c, k2_n, k2_c, ar_n, ar_c, pk_n, pk_c, rm_0, rm_1, rm_2, rm_3, rm_4, rm_5, rc_9, rcs, fvs, rf_s, rf_n, isI_i, isL_l, isR_r, isR_n, isR_q, ct_i, ct_l, ct_r, ct_n, ct_q, tFs, tCs, tKs, tJs, tSs, e_nf, lgs, ↓reduceIte, true_and, and_true, false_and, and_false, or_true, true_or, false_or, or_false, Nat.reduceAdd, Nat.reduceEqDiff, Nat.reduceDiv, Nat.reduceLT, Nat.reduceLeDiff, Nat.zero_add, reduceCtorEq, Bool.false_eq_true, Option.toList_some, Option.toList_none, List.cons_append, List.nil_append, not_true_eq_false, not_false_eq_true, Nat.sub_zero, dsX6_value, jsX6_value, xcX6_value, x2, gr2, g2, gc, u4]
        exact hq
      | cons p r =>
        have hlp : 0 < l.length := by rw [hl0]; exact Nat.succ_pos _
        have u4 : ¬ nI l.length = 0 := nI_ne0 hlp (by omega)
        by_cases c3 : ms = 0
        · have hx : l[0]? = some p := by rw [hl0]; rfl
          have hv : valF l ms = p.2 := by rw [hl0]; unfold valF; rw [if_pos c3]; rfl
          have hA : vlF M2 (gA M x) 0 = p.2 := (hP2.at_ hx).2
          rw [hv] at hq
          refine e_g2 hG [] 60 ?_
          simp only [e_wp_s, Option.getD_some, Option.isSome_some, Option.isSome_none, xis0, xis1, xis2, xis3, xis4, e_ks, lk_k, lk_c, List.lookup_nil, gt_c, vi_i, k1_n, k1_c, k2_n, k2_c, ar_n, ar_c, pk_n, pk_c, rm_0, rm_1, rm_2, rm_3, rm_4, rm_5, rc_9, rcs, fvs, rf_s, rf_n, isI_i, isL_l, isR_r, isR_n, isR_q, ct_i, ct_l, ct_r, ct_n, ct_q, tFs, tCs, tKs, tJs, tSs, e_nf, lgs, ↓reduceIte, true_and, and_true, false_and, and_false, or_true, true_or, false_or, or_false, Nat.reduceAdd, Nat.reduceEqDiff, Nat.reduceDiv, Nat.reduceLT, Nat.reduceLeDiff, Nat.zero_add, reduceCtorEq, Bool.false_eq_true, Option.toList_some, Option.toList_none, List.cons_append, List.nil_append, not_true_eq_false, not_false_eq_true, Nat.sub_zero, dsX6_value, jsX6_value, xcX6_value, x2, gr2, g2, gR, gc, u4, c3, hA, ↓sp_X1_valueAt]
          exact hq
        · obtain ⟨y, hy⟩ : ∃ y, l[l.length - 1]? = some y := ⟨_, List.getElem?_eq_getElem (by omega)⟩
          have hv : valF l ms = y.2 := by unfold valF; rw [if_neg c3, List.getLast?_eq_getElem?, hy]
          have hA : vlF M2 (gA M x) (nI l.length - 1) = y.2 := by
            have e : nI l.length - 1 = nI (l.length - 1) := by
              have := nI_pred (l.length - 1)
              rw [show l.length - 1 + 1 = l.length by omega] at this
              exact this
            rw [e]; exact (hP2.at_ hy).2
          rw [hv] at hq
          refine e_g2 hG [] 60 ?_
          simp only [e_wp_s, Option.getD_some, Option.isSome_some, Option.isSome_none, xis0, xis1, xis2, xis3, xis4, e_ks, lk_k, lk_c, List.lookup_nil, gt_c, vi_i, k1_n, k1_c, k2_n, k2_c, ar_n, ar_c, pk_n, pk_c, rm_0, rm_1, rm_2, rm_3, rm_4, rm_5, rc_9, rcs, fvs, rf_s, rf_n, isI_i, isL_l, isR_r, isR_n, isR_q, ct_i, ct_l, ct_r, ct_n, ct_q, tFs, tCs, tKs, tJs, tSs, e_nf, lgs, ↓reduceIte, true_and, and_true, false_and, and_false, or_true, true_or, false_or, or_false, Nat.reduceAdd, Nat.reduceEqDiff, Nat.reduceDiv, Nat.reduceLT, Nat.reduceLeDiff, Nat.zero_add, reduceCtorEq, Bool.false_eq_true, Option.toList_some, Option.toList_none, List.cons_append, List.nil_append, not_true_eq_false, not_false_eq_true, Nat.sub_zero, dsX6_value, jsX6_value, xcX6_value, x2, gr2, g2, gR, gc, u4, c3, hA, ↓sp_X1_valueAt]
          exact hq
    · rw [if_neg c1] at hq
      refine e_g2 hG [] 60 ?_
      simp only [e_wp_s, Option.getD_some, Option.isSome_some, Option.isSome_none, xis0, xis1, xis2, xis3, xis4, e_ks, lk_k, lk_c, List.lookup_nil, gt_c, vi_i, k1_n, k1_c, k2_n, k2_c, ar_n, ar_c, pk_n, pk_c, rm_0, rm_1, rm_2, rm_3, rm_4, rm_5, rc_9, rcs, fvs, rf_s, rf_n, isI_i, isL_l, isR_r, isR_n, isR_q, ct_i, ct_l, ct_r, ct_n, ct_q, tFs, tCs, tKs, tJs, tSs, e_nf, lgs, ↓reduceIte, true_and, and_true, false_and, and_false, or_true, true_or, false_or, or_false, Nat.reduceAdd, Nat.reduceEqDiff, Nat.reduceDiv, Nat.reduceLT, Nat.reduceLeDiff, Nat.zero_add, reduceCtorEq, Bool.false_eq_true, Option.toList_some, Option.toList_none, List.cons_append, List.nil_append, not_true_eq_false, not_false_eq_true, Nat.sub_zero, dsX6_value, jsX6_value, xcX6_value, k0, kR, h4, c1, i10, ↓sp_X6_seriesAt, ↓sp_X6_isWindow]
      exact hq O M hN Fr.rf
