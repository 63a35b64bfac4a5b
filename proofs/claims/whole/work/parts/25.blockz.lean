/-- a new block, and its constructor -/
def inB (M : HM) (b y : Nat) : HM := sI (sI (sL (sI (sL (sL (sL (sI (sI (sI (sI (sI (sR (sR (nA M 9 y 226) 0 b (some y)) 1 b none) 2 b 0) 3 b 0) 4 b 0) 5 b 0) 6 b 0) 7 b 0) 8 b 0) 9 b 0) 10 b 0) 11 b 0) 12 b 0) 13 b 0
def csX0_init : CS := (cs_c 1 3 1 9 sp_obj cs_0)
theorem csoX0_init : ∀ op x na cl sp, csX0_init op x = some (na, cl, sp) → CallOK 0 1 20 op x na cl sp := (cs_c_ok caX0_init_3 cs_0_ok)
theorem xcX0_init : (∀ (Q : QT) (G : GT) (pc : Nat) (L : LV) (a0 : Value) (r : List Value) (M : HM) (k n : Nat), ex_i 0 1 0 true csX0_init Q G (.invokespecial 3) pc L (a0 :: r) M k n = (e_rm r ∧ e_rc M 9 [a0] ∧ sp_obj [a0] M k n (fun v M' k' n' => G (pc + 3) L (v.toList ++ r) M' k' n'))) := (fun _ _ _ _ _ _ _ _ _ => xv1_1 rfl)
def sp_X0_init : SP := fun as M k n Q => match as with
  | [.ref b] => mK M b = 1 ∧ 1 ≤ k ∧ 226 ≤ n ∧ ∀ y, mK M y = 0 → Q none (inB M b y) (k - 1) (n - 226)
  | _ => False
set_option maxRecDepth 20000 in
theorem okX0_init : OkX0_init sp_X0_init := by
  refine inX0_init csoX0_init ?_
  intro as M k n Q hsp
  unfold sp_X0_init at hsp
  split at hsp
  rotate_left
  · exact hsp.elim
  rename_i b
  obtain ⟨hb, hk, hn, hq⟩ := hsp
  refine ⟨1, 226, hk, hn, Nat.le_of_ble_eq_true rfl, fun G hG => ?_⟩
  refine e_g2 hG [] 80 ?_
  have z1 : ¬ (226 : Int32) < 0 := by decide
  have z2 : (226 : Int32).toNatClampNeg = 226 := rfl
  have hne : ∀ y, mK M y = 0 → b ≠ y := fun y h e => by rw [e, h] at hb; cases hb
  simp only [e_wp_s, Option.getD_some, Option.isSome_some, Option.isSome_none, xis0, xis1, xis2, xis3, xis4, e_ks, lk_k, lk_c, List.lookup_nil, gt_c, vi_i, k1_n, k1_c, k2_n, k2_c, ar_n, ar_c, pk_n, pk_c, rm_0, rm_1, rm_2, rm_3, rm_4, rm_5, rc_9, rcs, fvs, rf_s, rf_n, isI_i, isL_l, isR_r, isR_n, isR_q, ct_i, ct_l, ct_r, ct_n, ct_q, tFs, tCs, tKs, tJs, tSs, e_nf, lgs, ↓reduceIte, true_and, and_true, false_and, and_false, or_true, true_or, false_or, or_false, Nat.reduceAdd, Nat.reduceEqDiff, Nat.reduceDiv, Nat.reduceLT, Nat.reduceLeDiff, Nat.zero_add, reduceCtorEq, Bool.false_eq_true, Option.toList_some, Option.toList_none, List.cons_append, List.nil_append, not_true_eq_false, not_false_eq_true, Nat.sub_zero, dsX0_init, xcX0_init, hb, ↓obj_e, z1, z2, hmK, hmN, hmI, hmL, hmR, haI, haL, haR]
  intro y hy
  simp only [hne y hy, if_false, true_and]
  exact hq y hy
def flB (M : HM) (b j : Nat) : Int32 := match mR M 1 b with
  | none => 0
  | some z => aI M z j
/-- a byte as it was made -/
def bmade (M : HM) (b j : Nat) : Int32 := aI M (bt M b) j ^^^ flB M b j
def ckS (M : HM) (b : Nat) : Nat → Int32
  | 0 => 0
  | j + 1 => ckS M b j + bmade M b j
theorem bmade_e {M : HM} {b j : Nat} (h : j < 226) : (if nI j < 0 ∨ ¬ nI j < 226 then 0 else aI M (bt M b) (nI j).toNatClampNeg) ^^^ fo M b (nI j) = bmade M b j := by
  have e1 : ¬ nI j < 0 := nI_pos (by omega)
  have e2 : nI j < 226 := nI_lt (b := 226) h (by decide)
  have e3 : (nI j).toNatClampNeg = j := nI_clamp (by omega)
  unfold bmade fo flB
  cases mR M 1 b <;> simp [e1, e2, e3]
theorem bc_e {p : Nat} (h : p ≤ 1808) : (nI p + 7) / 8 = nI ((p + 7) / 8) := by
  rw [show (7 : Int32) = nI 7 from rfl, nI_add, show (8 : Int32) = nI 8 from rfl, pk_div (by omega) (by decide) (by decide)]
def csX0_check : CS := (cs_c 0 62 1 0 sp_X0_byteCount (cs_c 0 77 2 0 sp_X0_byteMade cs_0))
theorem csoX0_check : ∀ op x na cl sp, csX0_check op x = some (na, cl, sp) → CallOK 0 2 42 op x na cl sp := (cs_c_ok (caX0_check_62 okX0_byteCount) (cs_c_ok (caX0_check_77 okX0_byteMade) cs_0_ok))
theorem xcX0_check : (∀ (Q : QT) (G : GT) (pc : Nat) (L : LV) (a0 : Value) (r : List Value) (M : HM) (k n : Nat), ex_i 0 4 1 false csX0_check Q G (.invokevirtual 62) pc L (a0 :: r) M k n = (e_rm r ∧ e_rc M 0 [a0] ∧ sp_X0_byteCount [a0] M k n (fun v M' k' n' => G (pc + 3) L (v.toList ++ r) M' k' n'))) ∧ (∀ (Q : QT) (G : GT) (pc : Nat) (L : LV) (a0 a1 : Value) (r : List Value) (M : HM) (k n : Nat), ex_i 0 4 1 false csX0_check Q G (.invokevirtual 77) pc L (a1 :: a0 :: r) M k n = (e_rm r ∧ e_rc M 0 [a0, a1] ∧ sp_X0_byteMade [a0, a1] M k n (fun v M' k' n' => G (pc + 3) L (v.toList ++ r) M' k' n'))) := ⟨(fun _ _ _ _ _ _ _ _ _ => xv0_1 rfl), (fun _ _ _ _ _ _ _ _ _ _ => xv0_2 rfl)⟩
def sp_X0_check : SP := fun as M k n Q => match as with
  | [.ref b] => ∃ p, WB M b ∧ mI M 3 b = nI p ∧ p ≤ 1808 ∧ Q (some (.int (ckS M b ((p + 7) / 8) &&& 255))) M k n
  | _ => False
theorem okX0_check : OkX0_check sp_X0_check := by
  refine inX0_check csoX0_check ?_
  intro as M k n Q hsp
  unfold sp_X0_check at hsp
  split at hsp
  rotate_left
  · exact hsp.elim
  rename_i b
  obtain ⟨p, hw, hp, hl, hq⟩ := hsp
  have hb := hw.1
  refine ⟨0, 0, Nat.zero_le _, Nat.zero_le _, Nat.le_of_ble_eq_true rfl, fun G hG => ?_⟩
  have loop : ∀ d j : Nat, j + d = (p + 7) / 8 → G 9 [(0, .ref b), (1, .int (ckS M b j)), (2, .int (nI ((p + 7) / 8))), (3, .int (nI j))] [] M 0 0 := by
    intro d
    induction d with
    | zero =>
      intro j hj
      have e1 : ¬ nI j < nI ((p + 7) / 8) := nI_nlt (by omega) (by omega)
      refine e_g2 hG [(9, [0, 1, 2, 3])] 40 ?_
      simp only [e_wp_s, Option.getD_some, Option.isSome_some, Option.isSome_none, xis0, xis1, xis2, xis3, xis4, e_ks, lk_k, lk_c, List.lookup_nil, gt_c, vi_i, k1_n, k1_c, k2_n, k2_c, ar_n, ar_c, pk_n, pk_c, rm_0, rm_1, rm_2, rm_3, rm_4, rm_5, rc_9, rcs, fvs, rf_s, rf_n, isI_i, isL_l, isR_r, isR_n, isR_q, ct_i, ct_l, ct_r, ct_n, ct_q, tFs, tCs, tKs, tJs, tSs, e_nf, lgs, ↓reduceIte, true_and, and_true, false_and, and_false, or_true, true_or, false_or, or_false, Nat.reduceAdd, Nat.reduceEqDiff, Nat.reduceDiv, Nat.reduceLT, Nat.reduceLeDiff, Nat.zero_add, reduceCtorEq, Bool.false_eq_true, Option.toList_some, Option.toList_none, List.cons_append, List.nil_append, not_true_eq_false, not_false_eq_true, Nat.sub_zero, dsX0_check, jsX0_check, xcX0_check, e1]
      rw [show j = (p + 7) / 8 by omega]
      exact hq
    | succ d ih =>
      intro j hj
      have e1 : nI j < nI ((p + 7) / 8) := nI_lt (by omega) (by omega)
      refine e_g2 hG [(9, [0, 1, 2, 3])] 40 ?_
      simp only [e_wp_s, Option.getD_some, Option.isSome_some, Option.isSome_none, xis0, xis1, xis2, xis3, xis4, e_ks, lk_k, lk_c, List.lookup_nil, gt_c, vi_i, k1_n, k1_c, k2_n, k2_c, ar_n, ar_c, pk_n, pk_c, rm_0, rm_1, rm_2, rm_3, rm_4, rm_5, rc_9, rcs, fvs, rf_s, rf_n, isI_i, isL_l, isR_r, isR_n, isR_q, ct_i, ct_l, ct_r, ct_n, ct_q, tFs, tCs, tKs, tJs, tSs, e_nf, lgs, ↓reduceIte, true_and, and_true, false_and, and_false, or_true, true_or, false_or, or_false, Nat.reduceAdd, Nat.reduceEqDiff, Nat.reduceDiv, Nat.reduceLT, Nat.reduceLeDiff, Nat.zero_add, reduceCtorEq, Bool.false_eq_true, Option.toList_some, Option.toList_none, List.cons_append, List.nil_append, not_true_eq_false, not_false_eq_true, Nat.sub_zero, dsX0_check, jsX0_check, xcX0_check, e1, hb, hw, ↓sp_X0_byteMade, nI_1]
      rw [bmade_e (by omega)]
      exact ih (j + 1) (by omega)
  refine e_g2 hG [(9, [0, 1, 2, 3])] 40 ?_
  simp only [e_wp_s, Option.getD_some, Option.isSome_some, Option.isSome_none, xis0, xis1, xis2, xis3, xis4, e_ks, lk_k, lk_c, List.lookup_nil, gt_c, vi_i, k1_n, k1_c, k2_n, k2_c, ar_n, ar_c, pk_n, pk_c, rm_0, rm_1, rm_2, rm_3, rm_4, rm_5, rc_9, rcs, fvs, rf_s, rf_n, isI_i, isL_l, isR_r, isR_n, isR_q, ct_i, ct_l, ct_r, ct_n, ct_q, tFs, tCs, tKs, tJs, tSs, e_nf, lgs, ↓reduceIte, true_and, and_true, false_and, and_false, or_true, true_or, false_or, or_false, Nat.reduceAdd, Nat.reduceEqDiff, Nat.reduceDiv, Nat.reduceLT, Nat.reduceLeDiff, Nat.zero_add, reduceCtorEq, Bool.false_eq_true, Option.toList_some, Option.toList_none, List.cons_append, List.nil_append, not_true_eq_false, not_false_eq_true, Nat.sub_zero, dsX0_check, jsX0_check, xcX0_check, hb, hp, ↓sp_X0_byteCount]
  rw [bc_e hl]
  exact loop ((p + 7) / 8) 0 (by omega)
/-- one byte turned, its mask kept -/
def flS (M : HM) (b z j : Nat) (m : Int32) : HM := sI (tI (tI M z j (aI M z j ^^^ m)) (bt M b) j (aI M (bt M b) j ^^^ m)) 2 b (mI M 2 b + ((if aI M z j ^^^ m = 0 then 0 else 1) - (if aI M z j = 0 then 0 else 1)))
def csX0_flip : CS := cs_0
theorem csoX0_flip : ∀ op x na cl sp, csX0_flip op x = some (na, cl, sp) → CallOK 0 0 0 op x na cl sp := cs_0_ok
def sp_X0_flip : SP := fun as M k n Q => match as with
  | [.ref b, .int i, .int m] => ∃ j, WB M b ∧ i = nI j ∧ j < 226 ∧ (∀ z, mR M 1 b = some z → Q none (flS M b z j m) k n) ∧
      (mR M 1 b = none → 1 ≤ k ∧ 226 ≤ n ∧ ∀ y, mK M y = 0 → Q none (flS (sR (nA M 9 y 226) 1 b (some y)) b y j m) (k - 1) (n - 226))
  | _ => False
set_option maxRecDepth 20000 in
theorem okX0_flip : OkX0_flip sp_X0_flip := by
  refine inX0_flip csoX0_flip ?_
  intro as M k n Q hsp
  unfold sp_X0_flip at hsp
  split at hsp
  rotate_left
  · exact hsp.elim
  rename_i b i m
  obtain ⟨j, hw, rfl, hj, hq1, hq2⟩ := hsp
  obtain ⟨hb, hy, hky, hny, hz⟩ := id hw
  have e1 : ¬ nI j < 0 := nI_pos (by omega)
  have e2 : nI j < 226 := nI_lt (b := 226) hj (by decide)
  have e3 : (nI j).toNatClampNeg = j := nI_clamp (by omega)
  have e4 : vp_in (nI j) 226 := vp_in_nI hj (by decide)
  have z1 : ¬ (226 : Int32) < 0 := by decide
  have z2 : (226 : Int32).toNatClampNeg = 226 := rfl
  cases hf : mR M 1 b with
  | some z =>
    obtain ⟨g1, g2, g3⟩ := hz z hf
    have hq := hq1 z hf
    have g4 : ¬ bt M b = z := fun e => g3 e.symm
    refine ⟨0, 0, Nat.zero_le _, Nat.zero_le _, Nat.le_of_ble_eq_true rfl, fun G hG => ?_⟩
    refine e_g2 hG [] 80 ?_
    simp only [e_wp_s, Option.getD_some, Option.isSome_some, Option.isSome_none, xis0, xis1, xis2, xis3, xis4, e_ks, lk_k, lk_c, List.lookup_nil, gt_c, vi_i, k1_n, k1_c, k2_n, k2_c, ar_n, ar_c, pk_n, pk_c, rm_0, rm_1, rm_2, rm_3, rm_4, rm_5, rc_9, rcs, fvs, rf_s, rf_n, isI_i, isL_l, isR_r, isR_n, isR_q, ct_i, ct_l, ct_r, ct_n, ct_q, tFs, tCs, tKs, tJs, tSs, e_nf, lgs, ↓reduceIte, true_and, and_true, false_and, and_false, or_true, true_or, false_or, or_false, Nat.reduceAdd, Nat.reduceEqDiff, Nat.reduceDiv, Nat.reduceLT, Nat.reduceLeDiff, Nat.zero_add, reduceCtorEq, Bool.false_eq_true, Option.toList_some, Option.toList_none, List.cons_append, List.nil_append, not_true_eq_false, not_false_eq_true, Nat.sub_zero, dsX0_flip, jsX0_flip, hb, hy, hky, hny, hf, g1, g2, g3, g4, e1, e2, e3, e4, hmK, hmN, hmI, hmL, hmR, haI, haL, haR]
    unfold flS at hq
    by_cases c1 : aI M z j ^^^ m = 0 <;> simp only [c1, if_true, if_false] at hq ⊢ <;> by_cases c2 : aI M z j = 0 <;> simp only [c2, if_true, if_false] at hq ⊢ <;> exact hq
  | none =>
    obtain ⟨hk, hn, hq⟩ := hq2 hf
    refine ⟨1, 226, hk, hn, Nat.le_of_ble_eq_true rfl, fun G hG => ?_⟩
    refine e_g2 hG [] 80 ?_
    simp only [e_wp_s, Option.getD_some, Option.isSome_some, Option.isSome_none, xis0, xis1, xis2, xis3, xis4, e_ks, lk_k, lk_c, List.lookup_nil, gt_c, vi_i, k1_n, k1_c, k2_n, k2_c, ar_n, ar_c, pk_n, pk_c, rm_0, rm_1, rm_2, rm_3, rm_4, rm_5, rc_9, rcs, fvs, rf_s, rf_n, isI_i, isL_l, isR_r, isR_n, isR_q, ct_i, ct_l, ct_r, ct_n, ct_q, tFs, tCs, tKs, tJs, tSs, e_nf, lgs, ↓reduceIte, true_and, and_true, false_and, and_false, or_true, true_or, false_or, or_false, Nat.reduceAdd, Nat.reduceEqDiff, Nat.reduceDiv, Nat.reduceLT, Nat.reduceLeDiff, Nat.zero_add, reduceCtorEq, Bool.false_eq_true, Option.toList_some, Option.toList_none, List.cons_append, List.nil_append, not_true_eq_false, not_false_eq_true, Nat.sub_zero, dsX0_flip, jsX0_flip, hb, hy, hky, hny, hf, e1, e2, e3, e4, z1, z2, hmK, hmN, hmI, hmL, hmR, haI, haL, haR]
    intro y hy0
    have n1 : ¬ b = y := fun e => by rw [e, hy0] at hb; cases hb
    have n2 : ¬ bt M b = y := fun e => by rw [e, hy0] at hky; cases hky
    have hq := hq y hy0
    unfold flS at hq
    have bte : bt (sR (nA M 9 y 226) 1 b (some y)) b = bt M b := rfl
    simp only [bte, haI, hmI, n2, if_true, if_false] at hq
    have n3 : ¬ y = bt M b := fun e => n2 e.symm
    simp only [n1, n2, n3, e4, if_true, if_false, true_and, true_or]
    by_cases c1 : 0 ^^^ m = 0 <;> simp only [c1, if_true, if_false] at hq ⊢ <;> exact hq
