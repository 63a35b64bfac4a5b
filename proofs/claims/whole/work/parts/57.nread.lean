/-! the river: what it tells -/
theorem tis : (∀ x : Int32, (x.toInt = 0) = (x = 0)) ∧ (∀ x : Int32, (x.toInt = 1) = (x = 1)) ∧ (∀ x : Int32, (x.toInt = 2) = (x = 2)) ∧ (∀ x : Int32, (x.toInt = 3) = (x = 3)) ∧ (∀ x : Int32, (x.toInt = 4) = (x = 4)) ∧ (∀ x : Int32, (x.toInt = 5) = (x = 5)) ∧ (∀ x : Int32, (x.toInt = 6) = (x = 6)) ∧ (∀ x : Int32, (x.toInt = 7) = (x = 7)) := by
  refine ⟨?_, ?_, ?_, ?_, ?_, ?_, ?_, ?_⟩
  · exact fun x => propext ⟨fun h => Int32.toInt_inj.mp (h.trans (show (0 : Int) = (0 : Int32).toInt from rfl)), fun h => by rw [h]; rfl⟩
  · exact fun x => propext ⟨fun h => Int32.toInt_inj.mp (h.trans (show (1 : Int) = (1 : Int32).toInt from rfl)), fun h => by rw [h]; rfl⟩
  · exact fun x => propext ⟨fun h => Int32.toInt_inj.mp (h.trans (show (2 : Int) = (2 : Int32).toInt from rfl)), fun h => by rw [h]; rfl⟩
  · exact fun x => propext ⟨fun h => Int32.toInt_inj.mp (h.trans (show (3 : Int) = (3 : Int32).toInt from rfl)), fun h => by rw [h]; rfl⟩
  · exact fun x => propext ⟨fun h => Int32.toInt_inj.mp (h.trans (show (4 : Int) = (4 : Int32).toInt from rfl)), fun h => by rw [h]; rfl⟩
  · exact fun x => propext ⟨fun h => Int32.toInt_inj.mp (h.trans (show (5 : Int) = (5 : Int32).toInt from rfl)), fun h => by rw [h]; rfl⟩
  · exact fun x => propext ⟨fun h => Int32.toInt_inj.mp (h.trans (show (6 : Int) = (6 : Int32).toInt from rfl)), fun h => by rw [h]; rfl⟩
  · exact fun x => propext ⟨fun h => Int32.toInt_inj.mp (h.trans (show (7 : Int) = (7 : Int32).toInt from rfl)), fun h => by rw [h]; rfl⟩
def NOv : Int64 := -9223372036854775808
def aScan (sc ct tr : Nat) (w : Int32) : Int32 := if w = 0 then nI sc else if w = 1 then nI ct else if w = 2 then nI tr else -1
def csX6_scan : CS := cs_0
theorem csoX6_scan : ∀ op x na cl sp, csX6_scan op x = some (na, cl, sp) → CallOK 6 0 0 op x na cl sp := cs_0_ok
def sp_X6_scan : SP := fun as M k n Q => match as with
  | [.ref x, .int w] => ∃ O L sc ct tr, NRep O M x L sc ct tr ∧ Q (some (.int (aScan sc ct tr w))) M k n
  | _ => False
theorem okX6_scan : OkX6_scan sp_X6_scan := by
  refine inX6_scan csoX6_scan ?_
  intro as M k n Q hsp
  unfold sp_X6_scan at hsp
  split at hsp
  rotate_left
  · exact hsp.elim
  rename_i x w
  obtain ⟨O, L, sc, ct, tr, hN, hq⟩ := hsp
  obtain ⟨⟨⟨k0, -, -, c1⟩, -⟩, -, -, -, -, -, a, b, u, hQ⟩ := id hN
  obtain ⟨q0, -, -, -, -, -, -, q70, q71, q72⟩ := hQ
  refine ⟨0, 0, Nat.zero_le _, Nat.zero_le _, Nat.le_of_ble_eq_true rfl, fun G hG => ?_⟩
  refine e_g2 hG [] 40 ?_
  simp only [e_wp_s, Option.getD_some, Option.isSome_some, Option.isSome_none, xis0, xis1, xis2, xis3, xis4, e_ks, lk_k, lk_c, List.lookup_nil, gt_c, vi_i, k1_n, k1_c, k2_n, k2_c, ar_n, ar_c, pk_n, pk_c, rm_0, rm_1, rm_2, rm_3, rm_4, rm_5, rc_9, rcs, fvs, rf_s, rf_n, isI_i, isL_l, isR_r, isR_n, isR_q, ct_i, ct_l, ct_r, ct_n, ct_q, tFs, tCs, tKs, tJs, tSs, e_nf, lgs, ↓reduceIte, true_and, and_true, false_and, and_false, or_true, true_or, false_or, or_false, Nat.reduceAdd, Nat.reduceEqDiff, Nat.reduceDiv, Nat.reduceLT, Nat.reduceLeDiff, Nat.zero_add, reduceCtorEq, Bool.false_eq_true, Option.toList_some, Option.toList_none, List.cons_append, List.nil_append, not_true_eq_false, not_false_eq_true, Nat.sub_zero, dsX6_scan, jsX6_scan, k0, c1, q0, q70, q71, q72, e_tw, e_lw, Int.reduceAdd, tis]
  refine ⟨rfl, ?_⟩
  unfold aScan at hq
  by_cases c0' : w = 0
  · subst c0'
    simpa using hq
  by_cases c1' : w = 1
  · subst c1'
    simpa using hq
  by_cases c2' : w = 2
  · subst c2'
    simpa using hq
  simpa [c0', c1', c2'] using hq
def aBlk (X : BLK) (w : Int32) : Int32 := if w = 0 then nI X.1.length else if w = 1 then fst1 X.1 else if w = 2 then eT (enc X.1) else if w = 3 then nI (((eB (enc X.1)).length + 7) / 8) else if w = 4 then sm (byt (eB (enc X.1))) (((eB (enc X.1)).length + 7) / 8) &&& 255 else if w = 5 then (if tornB X then 1 else 0) else if w = 6 then nI (eB (enc X.1)).length else -1
def aBlock (L : List SER) (i j w : Int32) : Int32 := match sblk L i j with
  | none => -1
  | some X => aBlk X w
theorem SRp.ne {L : List SER} (h : ∀ S, S ∈ L → neB S.2.2.2.1) {i j : Nat} {S : SER} {X : BLK} (h1 : L[i]? = some S) (h2 : S.2.2.2.1[j]? = some X) : X.1 ≠ [] := h S (List.mem_of_getElem? h1) X (List.mem_of_getElem? h2)
def csX6_block : CS := (cs_c 0 117 3 6 sp_X6_blockOf (cs_c 0 130 1 0 sp_X0_byteCount (cs_c 0 133 1 0 sp_X0_check (cs_c 0 136 1 0 sp_X0_isTorn cs_0))))
theorem csoX6_block : ∀ op x na cl sp, csX6_block op x = some (na, cl, sp) → CallOK 6 3 65 op x na cl sp := (cs_c_ok (caX6_block_117 okX6_blockOf) (cs_c_ok (caX6_block_130 okX0_byteCount) (cs_c_ok (caX6_block_133 okX0_check) (cs_c_ok (caX6_block_136 okX0_isTorn) cs_0_ok))))
theorem xcX6_block : (∀ (Q : QT) (G : GT) (pc : Nat) (L : LV) (a0 a1 a2 : Value) (r : List Value) (M : HM) (k n : Nat), ex_i 6 5 1 false csX6_block Q G (.invokevirtual 117) pc L (a2 :: a1 :: a0 :: r) M k n = (e_rm r ∧ e_rc M 6 [a0, a1, a2] ∧ sp_X6_blockOf [a0, a1, a2] M k n (fun v M' k' n' => G (pc + 3) L (v.toList ++ r) M' k' n'))) ∧ (∀ (Q : QT) (G : GT) (pc : Nat) (L : LV) (a0 : Value) (r : List Value) (M : HM) (k n : Nat), ex_i 6 5 1 false csX6_block Q G (.invokevirtual 130) pc L (a0 :: r) M k n = (e_rm r ∧ e_rc M 0 [a0] ∧ sp_X0_byteCount [a0] M k n (fun v M' k' n' => G (pc + 3) L (v.toList ++ r) M' k' n'))) ∧ (∀ (Q : QT) (G : GT) (pc : Nat) (L : LV) (a0 : Value) (r : List Value) (M : HM) (k n : Nat), ex_i 6 5 1 false csX6_block Q G (.invokevirtual 133) pc L (a0 :: r) M k n = (e_rm r ∧ e_rc M 0 [a0] ∧ sp_X0_check [a0] M k n (fun v M' k' n' => G (pc + 3) L (v.toList ++ r) M' k' n'))) ∧ (∀ (Q : QT) (G : GT) (pc : Nat) (L : LV) (a0 : Value) (r : List Value) (M : HM) (k n : Nat), ex_i 6 5 1 false csX6_block Q G (.invokevirtual 136) pc L (a0 :: r) M k n = (e_rm r ∧ e_rc M 0 [a0] ∧ sp_X0_isTorn [a0] M k n (fun v M' k' n' => G (pc + 3) L (v.toList ++ r) M' k' n'))) := ⟨(fun _ _ _ _ _ _ _ _ _ _ _ => xv0_3 rfl), (fun _ _ _ _ _ _ _ _ _ => xv0_1 rfl), (fun _ _ _ _ _ _ _ _ _ => xv0_1 rfl), (fun _ _ _ _ _ _ _ _ _ => xv0_1 rfl)⟩
def sp_X6_block : SP := fun as M k n Q => match as with
  | [.ref x, .int i, .int j, .int w] => ∃ O L sc ct tr, NRep O M x L sc ct tr ∧ (∀ S, S ∈ L → neB S.2.2.2.1) ∧ Q (some (.int (aBlock L i j w))) M k n
  | _ => False
theorem okX6_block : OkX6_block sp_X6_block := by
  refine inX6_block csoX6_block ?_
  intro as M k n Q hsp
  unfold sp_X6_block at hsp
  split at hsp
  rotate_left
  · exact hsp.elim
  rename_i x i j w
  obtain ⟨O, L, sc, ct, tr, hN, hne, hq⟩ := hsp
  have k0 := hN.1.1.1
  have kR := hN.1.1
  refine ⟨0, 0, Nat.zero_le _, Nat.zero_le _, Nat.le_of_ble_eq_true rfl, fun G hG => ?_⟩
  unfold aBlock at hq
  obtain ⟨hSR, hb⟩ := hN.bo i j
  rcases hb with ⟨h1, h2⟩ | ⟨i', S, j', X, b, h1, rfl, h3, rfl, h5, h6, h7, h8, h9, h10, h11⟩
  · rw [h1] at hq
    refine e_g2 hG [] 40 ?_
    simp only [e_wp_s, Option.getD_some, Option.isSome_some, Option.isSome_none, xis0, xis1, xis2, xis3, xis4, e_ks, lk_k, lk_c, List.lookup_nil, gt_c, vi_i, k1_n, k1_c, k2_n, k2_c, ar_n, ar_c, pk_n, pk_c, rm_0, rm_1, rm_2, rm_3, rm_4, rm_5, rc_9, rcs, fvs, rf_s, rf_n, isI_i, isL_l, isR_r, isR_n, isR_q, ct_i, ct_l, ct_r, ct_n, ct_q, tFs, tCs, tKs, tJs, tSs, e_nf, lgs, ↓reduceIte, true_and, and_true, false_and, and_false, or_true, true_or, false_or, or_false, Nat.reduceAdd, Nat.reduceEqDiff, Nat.reduceDiv, Nat.reduceLT, Nat.reduceLeDiff, Nat.zero_add, reduceCtorEq, Bool.false_eq_true, Option.toList_some, Option.toList_none, List.cons_append, List.nil_append, not_true_eq_false, not_false_eq_true, Nat.sub_zero, dsX6_block, jsX6_block, xcX6_block, k0, kR, h2, ↓sp_X6_blockOf]
    exact ⟨hSR, hq⟩
  · rw [h1] at hq
    have b0 := h9.K
    have hXn := SRp.ne hne h3 h5
    obtain ⟨-, -, -, -, -, -, -, v3, ⟨v4, v16⟩, v9, -, -, -, hv⟩ := id h9
    obtain ⟨v5, v6, -, v7, v8⟩ := hv hXn
    have ht := h9.torn
    have hbc := bc_e (show (eB (enc X.1)).length ≤ 1808 by have := enc_1808 v16; omega)
    refine e_g2 hG [(89, [])] 60 ?_
    simp only [e_wp_s, Option.getD_some, Option.isSome_some, Option.isSome_none, xis0, xis1, xis2, xis3, xis4, e_ks, lk_k, lk_c, List.lookup_nil, gt_c, vi_i, k1_n, k1_c, k2_n, k2_c, ar_n, ar_c, pk_n, pk_c, rm_0, rm_1, rm_2, rm_3, rm_4, rm_5, rc_9, rcs, fvs, rf_s, rf_n, isI_i, isL_l, isR_r, isR_n, isR_q, ct_i, ct_l, ct_r, ct_n, ct_q, tFs, tCs, tKs, tJs, tSs, e_nf, lgs, ↓reduceIte, true_and, and_true, false_and, and_false, or_true, true_or, false_or, or_false, Nat.reduceAdd, Nat.reduceEqDiff, Nat.reduceDiv, Nat.reduceLT, Nat.reduceLeDiff, Nat.zero_add, reduceCtorEq, Bool.false_eq_true, Option.toList_some, Option.toList_none, List.cons_append, List.nil_append, not_true_eq_false, not_false_eq_true, Nat.sub_zero, dsX6_block, jsX6_block, xcX6_block, k0, kR, h6, b0, v3, v4, v5, v6, hbc, ↓sp_X6_blockOf, ↓sp_X0_byteCount, ↓sp_X0_isTorn, e_tw, e_lw, Int.reduceAdd, tis]
    refine ⟨hSR, rfl, ?_⟩
    have hck : w = 4 → sp_X0_check [.ref b] M 0 0 (fun v M' k' n' => G 89 [] (v.toList ++ []) M' k' n') := fun e => by
      refine ckA h9 ?_
      refine e_g2 hG [] 20 ?_
      simp only [e_wp_s, Option.getD_some, Option.isSome_some, Option.isSome_none, xis0, xis1, xis2, xis3, xis4, e_ks, lk_k, lk_c, List.lookup_nil, gt_c, vi_i, k1_n, k1_c, k2_n, k2_c, ar_n, ar_c, pk_n, pk_c, rm_0, rm_1, rm_2, rm_3, rm_4, rm_5, rc_9, rcs, fvs, rf_s, rf_n, isI_i, isL_l, isR_r, isR_n, isR_q, ct_i, ct_l, ct_r, ct_n, ct_q, tFs, tCs, tKs, tJs, tSs, e_nf, lgs, ↓reduceIte, true_and, and_true, false_and, and_false, or_true, true_or, false_or, or_false, Nat.reduceAdd, Nat.reduceEqDiff, Nat.reduceDiv, Nat.reduceLT, Nat.reduceLeDiff, Nat.zero_add, reduceCtorEq, Bool.false_eq_true, Option.toList_some, Option.toList_none, List.cons_append, List.nil_append, not_true_eq_false, not_false_eq_true, Nat.sub_zero, dsX6_block, jsX6_block, xcX6_block]
      unfold aBlk at hq
      subst e
      simpa using hq
    unfold aBlk at hq
    by_cases c0 : w = 0
    · subst c0; simpa using hq
    by_cases c1 : w = 1
    · subst c1; simpa using hq
    by_cases c2 : w = 2
    · subst c2; simpa using hq
    by_cases c3 : w = 3
    · subst c3; simpa using hq
    by_cases c4 : w = 4
    · have := hck c4
      subst c4; simpa using this
    by_cases c5 : w = 5
    · subst c5
      by_cases c : tornB X = true
      · simpa [c, ht.mpr c] using hq
      · have ht' : mI M 2 b ≤ 0 := Int32.not_lt.mp (fun z => c (ht.mp z))
        simpa [c, ht'] using hq
    by_cases c6 : w = 6
    · subst c6; simpa using hq
    simpa [c0, c1, c2, c3, c4, c5, c6] using hq
def aHed (X : BLK) (w : Int32) : Int64 := if w = 0 then low X.1 else if w = 1 then high X.1 else if w = 2 then tot X.1 else NOv
def aHead (L : List SER) (i j w : Int32) : Int64 := match sblk L i j with
  | none => NOv
  | some X => aHed X w
def csX6_head : CS := (cs_c 0 117 3 6 sp_X6_blockOf cs_0)
theorem csoX6_head : ∀ op x na cl sp, csX6_head op x = some (na, cl, sp) → CallOK 6 2 44 op x na cl sp := (cs_c_ok (caX6_head_117 okX6_blockOf) cs_0_ok)
theorem xcX6_head : (∀ (Q : QT) (G : GT) (pc : Nat) (L : LV) (a0 a1 a2 : Value) (r : List Value) (M : HM) (k n : Nat), ex_i 6 5 2 false csX6_head Q G (.invokevirtual 117) pc L (a2 :: a1 :: a0 :: r) M k n = (e_rm r ∧ e_rc M 6 [a0, a1, a2] ∧ sp_X6_blockOf [a0, a1, a2] M k n (fun v M' k' n' => G (pc + 3) L (v.toList ++ r) M' k' n'))) := (fun _ _ _ _ _ _ _ _ _ _ _ => xv0_3 rfl)
def sp_X6_head : SP := fun as M k n Q => match as with
  | [.ref x, .int i, .int j, .int w] => ∃ O L sc ct tr, NRep O M x L sc ct tr ∧ (∀ S, S ∈ L → neB S.2.2.2.1) ∧ Q (some (.long (aHead L i j w))) M k n
  | _ => False
theorem okX6_head : OkX6_head sp_X6_head := by
  refine inX6_head csoX6_head ?_
  intro as M k n Q hsp
  unfold sp_X6_head at hsp
  split at hsp
  rotate_left
  · exact hsp.elim
  rename_i x i j w
  obtain ⟨O, L, sc, ct, tr, hN, hne, hq⟩ := hsp
  have k0 := hN.1.1.1
  have kR := hN.1.1
  refine ⟨0, 0, Nat.zero_le _, Nat.zero_le _, Nat.le_of_ble_eq_true rfl, fun G hG => ?_⟩
  unfold aHead at hq
  obtain ⟨hSR, hb⟩ := hN.bo i j
  rcases hb with ⟨h1, h2⟩ | ⟨i', S, j', X, b, h1, rfl, h3, rfl, h5, h6, h7, h8, h9, h10, h11⟩
  · rw [h1] at hq
    refine e_g2 hG [] 40 ?_
    simp only [e_wp_s, Option.getD_some, Option.isSome_some, Option.isSome_none, xis0, xis1, xis2, xis3, xis4, e_ks, lk_k, lk_c, List.lookup_nil, gt_c, vi_i, k1_n, k1_c, k2_n, k2_c, ar_n, ar_c, pk_n, pk_c, rm_0, rm_1, rm_2, rm_3, rm_4, rm_5, rc_9, rcs, fvs, rf_s, rf_n, isI_i, isL_l, isR_r, isR_n, isR_q, ct_i, ct_l, ct_r, ct_n, ct_q, tFs, tCs, tKs, tJs, tSs, e_nf, lgs, ↓reduceIte, true_and, and_true, false_and, and_false, or_true, true_or, false_or, or_false, Nat.reduceAdd, Nat.reduceEqDiff, Nat.reduceDiv, Nat.reduceLT, Nat.reduceLeDiff, Nat.zero_add, reduceCtorEq, Bool.false_eq_true, Option.toList_some, Option.toList_none, List.cons_append, List.nil_append, not_true_eq_false, not_false_eq_true, Nat.sub_zero, dsX6_head, jsX6_head, xcX6_head, k0, kR, h2, ↓sp_X6_blockOf]
    exact ⟨hSR, hq⟩
  · rw [h1] at hq
    have b0 := h9.K
    have hXn := SRp.ne hne h3 h5
    obtain ⟨⟨-, w2, w3, w4, -⟩, -, -, -, -, v1, -, v3, ⟨v4, v16⟩, v9, -, -, -, hv⟩ := id h9
    obtain ⟨v5, v6, -, v7, v8⟩ := hv hXn
    have ht := h9.torn
    have hen := enc_1808 v16
    have hbc := bc_e (show (eB (enc X.1)).length ≤ 1808 by omega)
    refine e_g2 hG [] 60 ?_
    simp only [e_wp_s, Option.getD_some, Option.isSome_some, Option.isSome_none, xis0, xis1, xis2, xis3, xis4, e_ks, lk_k, lk_c, List.lookup_nil, gt_c, vi_i, k1_n, k1_c, k2_n, k2_c, ar_n, ar_c, pk_n, pk_c, rm_0, rm_1, rm_2, rm_3, rm_4, rm_5, rc_9, rcs, fvs, rf_s, rf_n, isI_i, isL_l, isR_r, isR_n, isR_q, ct_i, ct_l, ct_r, ct_n, ct_q, tFs, tCs, tKs, tJs, tSs, e_nf, lgs, ↓reduceIte, true_and, and_true, false_and, and_false, or_true, true_or, false_or, or_false, Nat.reduceAdd, Nat.reduceEqDiff, Nat.reduceDiv, Nat.reduceLT, Nat.reduceLeDiff, Nat.zero_add, reduceCtorEq, Bool.false_eq_true, Option.toList_some, Option.toList_none, List.cons_append, List.nil_append, not_true_eq_false, not_false_eq_true, Nat.sub_zero, dsX6_head, jsX6_head, xcX6_head, k0, kR, h6, b0, v7, v8, v9, ↓sp_X6_blockOf, e_tw, e_lw, Int.reduceAdd, tis]
    refine ⟨hSR, rfl, ?_⟩
    unfold aHed at hq
    by_cases c0' : w = 0
    · subst c0'
      simpa using hq
    by_cases c1' : w = 1
    · subst c1'
      simpa using hq
    by_cases c2' : w = 2
    · subst c2'
      simpa using hq
    simpa [NOv, c0', c1', c2'] using hq
def aAt (L : List SER) (i j k : Int32) : Int32 := match sblk L i j with
  | none => -1
  | some X => if ¬ k < 0 ∧ k < nI (((eB (enc X.1)).length + 7) / 8) then byt (eB (enc X.1)) k.toNatClampNeg ^^^ X.2 k.toNatClampNeg else -1
def csX6_at : CS := (cs_c 0 117 3 6 sp_X6_blockOf (cs_c 0 155 2 0 sp_X0_hasByte (cs_c 0 158 2 0 sp_X0_byteNow cs_0)))
theorem csoX6_at : ∀ op x na cl sp, csX6_at op x = some (na, cl, sp) → CallOK 6 2 44 op x na cl sp := (cs_c_ok (caX6_at_117 okX6_blockOf) (cs_c_ok (caX6_at_155 okX0_hasByte) (cs_c_ok (caX6_at_158 okX0_byteNow) cs_0_ok)))
theorem xcX6_at : (∀ (Q : QT) (G : GT) (pc : Nat) (L : LV) (a0 a1 a2 : Value) (r : List Value) (M : HM) (k n : Nat), ex_i 6 5 1 false csX6_at Q G (.invokevirtual 117) pc L (a2 :: a1 :: a0 :: r) M k n = (e_rm r ∧ e_rc M 6 [a0, a1, a2] ∧ sp_X6_blockOf [a0, a1, a2] M k n (fun v M' k' n' => G (pc + 3) L (v.toList ++ r) M' k' n'))) ∧ (∀ (Q : QT) (G : GT) (pc : Nat) (L : LV) (a0 a1 : Value) (r : List Value) (M : HM) (k n : Nat), ex_i 6 5 1 false csX6_at Q G (.invokevirtual 155) pc L (a1 :: a0 :: r) M k n = (e_rm r ∧ e_rc M 0 [a0, a1] ∧ sp_X0_hasByte [a0, a1] M k n (fun v M' k' n' => G (pc + 3) L (v.toList ++ r) M' k' n'))) ∧ (∀ (Q : QT) (G : GT) (pc : Nat) (L : LV) (a0 a1 : Value) (r : List Value) (M : HM) (k n : Nat), ex_i 6 5 1 false csX6_at Q G (.invokevirtual 158) pc L (a1 :: a0 :: r) M k n = (e_rm r ∧ e_rc M 0 [a0, a1] ∧ sp_X0_byteNow [a0, a1] M k n (fun v M' k' n' => G (pc + 3) L (v.toList ++ r) M' k' n'))) := ⟨(fun _ _ _ _ _ _ _ _ _ _ _ => xv0_3 rfl), (fun _ _ _ _ _ _ _ _ _ _ => xv0_2 rfl), (fun _ _ _ _ _ _ _ _ _ _ => xv0_2 rfl)⟩
def sp_X6_at : SP := fun as M k n Q => match as with
  | [.ref x, .int i, .int j, .int p] => ∃ O L sc ct tr, NRep O M x L sc ct tr ∧ (∀ S, S ∈ L → neB S.2.2.2.1) ∧ Q (some (.int (aAt L i j p))) M k n
  | _ => False
theorem okX6_at : OkX6_at sp_X6_at := by
  refine inX6_at csoX6_at ?_
  intro as M k n Q hsp
  unfold sp_X6_at at hsp
  split at hsp
  rotate_left
  · exact hsp.elim
  rename_i x i j p
  obtain ⟨O, L, sc, ct, tr, hN, hne, hq⟩ := hsp
  have k0 := hN.1.1.1
  have kR := hN.1.1
  refine ⟨0, 0, Nat.zero_le _, Nat.zero_le _, Nat.le_of_ble_eq_true rfl, fun G hG => ?_⟩
  unfold aAt at hq
  obtain ⟨hSR, hb⟩ := hN.bo i j
  rcases hb with ⟨h1, h2⟩ | ⟨i', S, j', X, b, h1, rfl, h3, rfl, h5, h6, h7, h8, h9, h10, h11⟩
  · rw [h1] at hq
    refine e_g2 hG [] 40 ?_
    simp only [e_wp_s, Option.getD_some, Option.isSome_some, Option.isSome_none, xis0, xis1, xis2, xis3, xis4, e_ks, lk_k, lk_c, List.lookup_nil, gt_c, vi_i, k1_n, k1_c, k2_n, k2_c, ar_n, ar_c, pk_n, pk_c, rm_0, rm_1, rm_2, rm_3, rm_4, rm_5, rc_9, rcs, fvs, rf_s, rf_n, isI_i, isL_l, isR_r, isR_n, isR_q, ct_i, ct_l, ct_r, ct_n, ct_q, tFs, tCs, tKs, tJs, tSs, e_nf, lgs, ↓reduceIte, true_and, and_true, false_and, and_false, or_true, true_or, false_or, or_false, Nat.reduceAdd, Nat.reduceEqDiff, Nat.reduceDiv, Nat.reduceLT, Nat.reduceLeDiff, Nat.zero_add, reduceCtorEq, Bool.false_eq_true, Option.toList_some, Option.toList_none, List.cons_append, List.nil_append, not_true_eq_false, not_false_eq_true, Nat.sub_zero, dsX6_at, jsX6_at, xcX6_at, k0, kR, h2, ↓sp_X6_blockOf]
    exact ⟨hSR, hq⟩
  · rw [h1] at hq
    have b0 := h9.K
    have hXn := SRp.ne hne h3 h5
    obtain ⟨⟨-, w2, w3, w4, -⟩, -, -, -, -, v1, -, v3, ⟨v4, v16⟩, v9, -, -, -, hv⟩ := id h9
    obtain ⟨v5, v6, -, v7, v8⟩ := hv hXn
    have ht := h9.torn
    have hen := enc_1808 v16
    have hbc := bc_e (show (eB (enc X.1)).length ≤ 1808 by omega)
    have hW := h9.1
    by_cases c : ¬ p < 0 ∧ p < nI (((eB (enc X.1)).length + 7) / 8)
    · simp only [c, not_false_eq_true, and_self, if_true] at hq
      obtain ⟨q, hq31, rfl⟩ := nI_of c.1
      have c2 := (nI_ltI hq31 (by omega)).mp c.2
      have a1 : ¬ nI q < 0 := c.1
      have a2 : nI q < 226 := nI_lt (b := 226) (by omega) (by decide)
      rw [nI_clamp hq31, ← v1 q] at hq
      have a3 : (nI q).toNatClampNeg = q := nI_clamp hq31
      refine e_g2 hG [] 60 ?_
      simp only [e_wp_s, Option.getD_some, Option.isSome_some, Option.isSome_none, xis0, xis1, xis2, xis3, xis4, e_ks, lk_k, lk_c, List.lookup_nil, gt_c, vi_i, k1_n, k1_c, k2_n, k2_c, ar_n, ar_c, pk_n, pk_c, rm_0, rm_1, rm_2, rm_3, rm_4, rm_5, rc_9, rcs, fvs, rf_s, rf_n, isI_i, isL_l, isR_r, isR_n, isR_q, ct_i, ct_l, ct_r, ct_n, ct_q, tFs, tCs, tKs, tJs, tSs, e_nf, lgs, ↓reduceIte, true_and, and_true, false_and, and_false, or_true, true_or, false_or, or_false, Nat.reduceAdd, Nat.reduceEqDiff, Nat.reduceDiv, Nat.reduceLT, Nat.reduceLeDiff, Nat.zero_add, reduceCtorEq, Bool.false_eq_true, Option.toList_some, Option.toList_none, List.cons_append, List.nil_append, not_true_eq_false, not_false_eq_true, Nat.sub_zero, dsX6_at, jsX6_at, xcX6_at, k0, kR, h6, b0, v3, hbc, c, hW, a1, a2, a3, i10, ↓sp_X6_blockOf, ↓sp_X0_hasByte, ↓sp_X0_byteNow]
      exact ⟨hSR, hq⟩
    · simp only [c, if_false] at hq
      refine e_g2 hG [] 60 ?_
      simp only [e_wp_s, Option.getD_some, Option.isSome_some, Option.isSome_none, xis0, xis1, xis2, xis3, xis4, e_ks, lk_k, lk_c, List.lookup_nil, gt_c, vi_i, k1_n, k1_c, k2_n, k2_c, ar_n, ar_c, pk_n, pk_c, rm_0, rm_1, rm_2, rm_3, rm_4, rm_5, rc_9, rcs, fvs, rf_s, rf_n, isI_i, isL_l, isR_r, isR_n, isR_q, ct_i, ct_l, ct_r, ct_n, ct_q, tFs, tCs, tKs, tJs, tSs, e_nf, lgs, ↓reduceIte, true_and, and_true, false_and, and_false, or_true, true_or, false_or, or_false, Nat.reduceAdd, Nat.reduceEqDiff, Nat.reduceDiv, Nat.reduceLT, Nat.reduceLeDiff, Nat.zero_add, reduceCtorEq, Bool.false_eq_true, Option.toList_some, Option.toList_none, List.cons_append, List.nil_append, not_true_eq_false, not_false_eq_true, Nat.sub_zero, dsX6_at, jsX6_at, xcX6_at, k0, kR, h6, b0, v3, hbc, c, hW, i10, ↓sp_X6_blockOf, ↓sp_X0_hasByte]
      exact ⟨hSR, hq⟩
