theorem SpOk.mono {y : MethodName} {cc : ByteArray} {nL : Nat} {ret : Option FieldType} {f lo : Nat} {sp sp' : SP} (h : SpOk y cc nL ret f lo sp) (hi : ∀ as M k n Q, sp' as M k n Q → sp as M k n Q) : SpOk y cc nL ret f lo sp' := fun l as M k n Q hq => h l as M k n Q (hi as M k n Q hq)
/-- bits written from place p on -/
def wrP (M : HM) (b p : Nat) (bs : List Bool) : HM := sI (uI M (bt M b) (wbl (aI M (bt M b)) p bs)) 3 b (nI (p + bs.length))
theorem wrP_app {M : HM} {b p : Nat} {bs cs : List Bool} : wrP (wrP M b p bs) b (p + bs.length) cs = wrP M b p (bs ++ cs) := by
  have h2 : bt (wrP M b p bs) b = bt M b := rfl
  have h3 : aI (wrP M b p bs) (bt M b) = wbl (aI M (bt M b)) p bs := by simp [wrP, haI, hmU]
  unfold wrP at h2 h3 ⊢
  refine hm_ext rfl rfl ?_ rfl rfl ?_ rfl rfl
  · funext f a
    simp only [hmI, hmU]
    by_cases e : f = 3 ∧ a = b
    · simp [e, Nat.add_assoc]
    · simp [e]
  · funext a
    simp only [haI, hmU, h2, h3]
    by_cases e : a = bt M b
    · subst e
      simp only [if_true, wbl_app, haI, hmU]
    · simp [e, haI, hmU]
theorem wrPs : (∀ M b p bs, mK (wrP M b p bs) = mK M) ∧ (∀ M b p bs, mN (wrP M b p bs) = mN M) ∧ (∀ M b p bs f a, mI (wrP M b p bs) f a = if f = 3 ∧ a = b then nI (p + bs.length) else mI M f a) ∧ (∀ M b p bs, mL (wrP M b p bs) = mL M) ∧ (∀ M b p bs, mR (wrP M b p bs) = mR M) ∧ (∀ M b p bs, aL (wrP M b p bs) = aL M) ∧ (∀ M b p bs, aR (wrP M b p bs) = aR M) ∧ (∀ M b p bs c, bt (wrP M b p bs) c = bt M c) ∧ (∀ M b p bs c, WB (wrP M b p bs) c = WB M c) := ⟨fun _ _ _ _ => rfl, fun _ _ _ _ => rfl, fun _ _ _ _ _ _ => rfl, fun _ _ _ _ => rfl, fun _ _ _ _ => rfl, fun _ _ _ _ => rfl, fun _ _ _ _ => rfl, fun _ _ _ _ _ => rfl, fun _ _ _ _ _ => rfl⟩
def sp_X0_write : SP := fun as M k n Q => match as with
  | [.ref b, .long x, .int c] => ∃ p, WB M b ∧ mI M 3 b = nI p ∧ c = nI (cl c) ∧ cl c ≤ 64 ∧ p + cl c ≤ 1808 ∧ Q none (wrP M b p (nb x (cl c))) k n
  | _ => False
theorem okX0_write : OkX0_write sp_X0_write := okX0_write0.mono (by
  intro as M k n Q h
  unfold sp_X0_write at h
  unfold sp_X0_write0
  split at h
  · rename_i b x c
    obtain ⟨p, h1, h2, h3, h4, h5, h6⟩ := h
    have e : bp M b = p := by unfold bp; rw [h2]; exact nI_clamp (by omega)
    refine ⟨h1, by rw [e]; exact h2, h3, h4, by rw [e]; exact h5, ?_⟩
    unfold wrM
    rw [e]
    exact h6
  · exact h.elim)
def iush (x k : Int32) : Int32 := (x.toUInt32 >>> (k.toUInt32 &&& Int32.toUInt32 31)).toInt32
def nz4 (i n : Int32) : Int32 := n - iush i 1
def nz3 (i n : Int32) : Int32 := if i < 4 then nz4 i n else nz4 (iush i 2) (n + (-2))
def nz2 (i n : Int32) : Int32 := if i < 16 then nz3 i n else nz3 (iush i 4) (n + (-4))
def nz1 (i n : Int32) : Int32 := if i < 256 then nz2 i n else nz2 (iush i 8) (n + (-8))
def nz0 (i n : Int32) : Int32 := if i < 65536 then nz1 i n else nz1 (iush i 16) (n + (-16))
def nlzI (x : Int32) : Int32 := if 0 < x then nz0 x 31 else if x = 0 then 32 else 0
def csJ6_numberOfLeadingZeros_0f7a4 : CS := cs_0
theorem csoJ6_numberOfLeadingZeros_0f7a4 : ∀ op x na cl sp, csJ6_numberOfLeadingZeros_0f7a4 op x = some (na, cl, sp) → CallOK 9 0 0 op x na cl sp := cs_0_ok
def sp_J6_numberOfLeadingZeros_0f7a4 : SP := fun as M k n Q => match as with
  | [.int x] => Q (some (.int (nlzI x))) M k n
  | _ => False
theorem okJ6_numberOfLeadingZeros_0f7a4 : OkJ6_numberOfLeadingZeros_0f7a4 sp_J6_numberOfLeadingZeros_0f7a4 := by
  refine inJ6_numberOfLeadingZeros_0f7a4 csoJ6_numberOfLeadingZeros_0f7a4 ?_
  intro as M k n Q hsp
  unfold sp_J6_numberOfLeadingZeros_0f7a4 at hsp
  split at hsp
  rotate_left
  · exact hsp.elim
  rename_i x
  refine ⟨0, 0, Nat.zero_le _, Nat.zero_le _, Nat.le_of_ble_eq_true rfl, fun G hG => ?_⟩
  have h73 : ∀ i m, Q (some (.int (nz4 i m))) M k n → G 73 [(0, .int i), (1, .int m)] [] M 0 0 := by
    intro i m h
    refine e_g2 hG [] 20 ?_
    simp only [e_wp_s, Option.getD_some, Option.isSome_some, Option.isSome_none, xis0, xis1, xis2, xis3, xis4, e_ks, lk_k, lk_c, List.lookup_nil, gt_c, vi_i, k1_n, k1_c, k2_n, k2_c, ar_n, ar_c, pk_n, pk_c, rm_0, rm_1, rm_2, rm_3, rm_4, rm_5, rc_9, rcs, fvs, rf_s, rf_n, isI_i, isL_l, isR_r, isR_n, isR_q, ct_i, ct_l, ct_r, ct_n, ct_q, tFs, tCs, tKs, tJs, tSs, e_nf, lgs, ↓reduceIte, true_and, and_true, false_and, and_false, or_true, true_or, false_or, or_false, Nat.reduceAdd, Nat.reduceEqDiff, Nat.reduceDiv, Nat.reduceLT, Nat.reduceLeDiff, Nat.zero_add, reduceCtorEq, Bool.false_eq_true, Option.toList_some, Option.toList_none, List.cons_append, List.nil_append, not_true_eq_false, not_false_eq_true, Nat.sub_zero, dsJ6_numberOfLeadingZeros_0f7a4, jsJ6_numberOfLeadingZeros_0f7a4]
    exact h
  have h61 : ∀ i m, Q (some (.int (nz3 i m))) M k n → G 61 [(0, .int i), (1, .int m)] [] M 0 0 := by
    intro i m h
    refine e_g2 hG [(73, [0, 1])] 20 ?_
    simp only [e_wp_s, Option.getD_some, Option.isSome_some, Option.isSome_none, xis0, xis1, xis2, xis3, xis4, e_ks, lk_k, lk_c, List.lookup_nil, gt_c, vi_i, k1_n, k1_c, k2_n, k2_c, ar_n, ar_c, pk_n, pk_c, rm_0, rm_1, rm_2, rm_3, rm_4, rm_5, rc_9, rcs, fvs, rf_s, rf_n, isI_i, isL_l, isR_r, isR_n, isR_q, ct_i, ct_l, ct_r, ct_n, ct_q, tFs, tCs, tKs, tJs, tSs, e_nf, lgs, ↓reduceIte, true_and, and_true, false_and, and_false, or_true, true_or, false_or, or_false, Nat.reduceAdd, Nat.reduceEqDiff, Nat.reduceDiv, Nat.reduceLT, Nat.reduceLeDiff, Nat.zero_add, reduceCtorEq, Bool.false_eq_true, Option.toList_some, Option.toList_none, List.cons_append, List.nil_append, not_true_eq_false, not_false_eq_true, Nat.sub_zero, dsJ6_numberOfLeadingZeros_0f7a4, jsJ6_numberOfLeadingZeros_0f7a4]
    unfold nz3 at h
    split at h <;> rename_i c
    · simp only [c, if_true]; exact h73 _ _ h
    · simp only [c, if_false]; exact h73 _ _ h
  have h48 : ∀ i m, Q (some (.int (nz2 i m))) M k n → G 48 [(0, .int i), (1, .int m)] [] M 0 0 := by
    intro i m h
    refine e_g2 hG [(61, [0, 1])] 20 ?_
    simp only [e_wp_s, Option.getD_some, Option.isSome_some, Option.isSome_none, xis0, xis1, xis2, xis3, xis4, e_ks, lk_k, lk_c, List.lookup_nil, gt_c, vi_i, k1_n, k1_c, k2_n, k2_c, ar_n, ar_c, pk_n, pk_c, rm_0, rm_1, rm_2, rm_3, rm_4, rm_5, rc_9, rcs, fvs, rf_s, rf_n, isI_i, isL_l, isR_r, isR_n, isR_q, ct_i, ct_l, ct_r, ct_n, ct_q, tFs, tCs, tKs, tJs, tSs, e_nf, lgs, ↓reduceIte, true_and, and_true, false_and, and_false, or_true, true_or, false_or, or_false, Nat.reduceAdd, Nat.reduceEqDiff, Nat.reduceDiv, Nat.reduceLT, Nat.reduceLeDiff, Nat.zero_add, reduceCtorEq, Bool.false_eq_true, Option.toList_some, Option.toList_none, List.cons_append, List.nil_append, not_true_eq_false, not_false_eq_true, Nat.sub_zero, dsJ6_numberOfLeadingZeros_0f7a4, jsJ6_numberOfLeadingZeros_0f7a4]
    unfold nz2 at h
    split at h <;> rename_i c
    · simp only [c, if_true]; exact h61 _ _ h
    · simp only [c, if_false]; exact h61 _ _ h
  have h33 : ∀ i m, Q (some (.int (nz1 i m))) M k n → G 33 [(0, .int i), (1, .int m)] [] M 0 0 := by
    intro i m h
    refine e_g2 hG [(48, [0, 1])] 20 ?_
    simp only [e_wp_s, Option.getD_some, Option.isSome_some, Option.isSome_none, xis0, xis1, xis2, xis3, xis4, e_ks, lk_k, lk_c, List.lookup_nil, gt_c, vi_i, k1_n, k1_c, k2_n, k2_c, ar_n, ar_c, pk_n, pk_c, rm_0, rm_1, rm_2, rm_3, rm_4, rm_5, rc_9, rcs, fvs, rf_s, rf_n, isI_i, isL_l, isR_r, isR_n, isR_q, ct_i, ct_l, ct_r, ct_n, ct_q, tFs, tCs, tKs, tJs, tSs, e_nf, lgs, ↓reduceIte, true_and, and_true, false_and, and_false, or_true, true_or, false_or, or_false, Nat.reduceAdd, Nat.reduceEqDiff, Nat.reduceDiv, Nat.reduceLT, Nat.reduceLeDiff, Nat.zero_add, reduceCtorEq, Bool.false_eq_true, Option.toList_some, Option.toList_none, List.cons_append, List.nil_append, not_true_eq_false, not_false_eq_true, Nat.sub_zero, dsJ6_numberOfLeadingZeros_0f7a4, jsJ6_numberOfLeadingZeros_0f7a4]
    unfold nz1 at h
    split at h <;> rename_i c
    · simp only [c, if_true]; exact h48 _ _ h
    · simp only [c, if_false]; exact h48 _ _ h
  refine e_g2 hG [(33, [0, 1])] 30 ?_
  simp only [e_wp_s, Option.getD_some, Option.isSome_some, Option.isSome_none, xis0, xis1, xis2, xis3, xis4, e_ks, lk_k, lk_c, List.lookup_nil, gt_c, vi_i, k1_n, k1_c, k2_n, k2_c, ar_n, ar_c, pk_n, pk_c, rm_0, rm_1, rm_2, rm_3, rm_4, rm_5, rc_9, rcs, fvs, rf_s, rf_n, isI_i, isL_l, isR_r, isR_n, isR_q, ct_i, ct_l, ct_r, ct_n, ct_q, tFs, tCs, tKs, tJs, tSs, e_nf, lgs, ↓reduceIte, true_and, and_true, false_and, and_false, or_true, true_or, false_or, or_false, Nat.reduceAdd, Nat.reduceEqDiff, Nat.reduceDiv, Nat.reduceLT, Nat.reduceLeDiff, Nat.zero_add, reduceCtorEq, Bool.false_eq_true, Option.toList_some, Option.toList_none, List.cons_append, List.nil_append, not_true_eq_false, not_false_eq_true, Nat.sub_zero, dsJ6_numberOfLeadingZeros_0f7a4, jsJ6_numberOfLeadingZeros_0f7a4]
  unfold nlzI nz0 at hsp
  by_cases c1 : 0 < x
  · simp only [c1, if_true] at hsp ⊢
    split at hsp <;> rename_i c
    · simp only [c, if_true]; exact h33 _ _ hsp
    · simp only [c, if_false]; exact h33 _ _ hsp
  · simp only [c1, if_false] at hsp ⊢
    split at hsp <;> rename_i c
    · simp only [c, if_true]; exact hsp
    · simp only [c, if_false]; exact hsp
def tz4 (i n : Int32) : Int32 := n + iush i 1
def tz3 (i n : Int32) : Int32 := if 4 < i then tz4 (iush i 2) (n + 2) else tz4 i n
def tz2 (i n : Int32) : Int32 := if 16 < i then tz3 (iush i 4) (n + 4) else tz3 i n
def tz1 (i n : Int32) : Int32 := if 256 < i then tz2 (iush i 8) (n + 8) else tz2 i n
def tz0 (i n : Int32) : Int32 := if 65536 < i then tz1 (iush i 16) (n + 16) else tz1 i n
def ntzI (x : Int32) : Int32 := if 0 < (x ^^^ (-1)) &&& (x - 1) then tz0 ((x ^^^ (-1)) &&& (x - 1)) 1 else ((x ^^^ (-1)) &&& (x - 1)) &&& 32
def csJ6_numberOfTrailingZeros_0f7a4 : CS := cs_0
theorem csoJ6_numberOfTrailingZeros_0f7a4 : ∀ op x na cl sp, csJ6_numberOfTrailingZeros_0f7a4 op x = some (na, cl, sp) → CallOK 9 0 0 op x na cl sp := cs_0_ok
def sp_J6_numberOfTrailingZeros_0f7a4 : SP := fun as M k n Q => match as with
  | [.int x] => Q (some (.int (ntzI x))) M k n
  | _ => False
theorem okJ6_numberOfTrailingZeros_0f7a4 : OkJ6_numberOfTrailingZeros_0f7a4 sp_J6_numberOfTrailingZeros_0f7a4 := by
  refine inJ6_numberOfTrailingZeros_0f7a4 csoJ6_numberOfTrailingZeros_0f7a4 ?_
  intro as M k n Q hsp
  unfold sp_J6_numberOfTrailingZeros_0f7a4 at hsp
  split at hsp
  rotate_left
  · exact hsp.elim
  rename_i x
  refine ⟨0, 0, Nat.zero_le _, Nat.zero_le _, Nat.le_of_ble_eq_true rfl, fun G hG => ?_⟩
  have h74 : ∀ i m, Q (some (.int (tz4 i m))) M k n → G 74 [(0, .int i), (1, .int m)] [] M 0 0 := by
    intro i m h
    refine e_g2 hG [] 20 ?_
    simp only [e_wp_s, Option.getD_some, Option.isSome_some, Option.isSome_none, xis0, xis1, xis2, xis3, xis4, e_ks, lk_k, lk_c, List.lookup_nil, gt_c, vi_i, k1_n, k1_c, k2_n, k2_c, ar_n, ar_c, pk_n, pk_c, rm_0, rm_1, rm_2, rm_3, rm_4, rm_5, rc_9, rcs, fvs, rf_s, rf_n, isI_i, isL_l, isR_r, isR_n, isR_q, ct_i, ct_l, ct_r, ct_n, ct_q, tFs, tCs, tKs, tJs, tSs, e_nf, lgs, ↓reduceIte, true_and, and_true, false_and, and_false, or_true, true_or, false_or, or_false, Nat.reduceAdd, Nat.reduceEqDiff, Nat.reduceDiv, Nat.reduceLT, Nat.reduceLeDiff, Nat.zero_add, reduceCtorEq, Bool.false_eq_true, Option.toList_some, Option.toList_none, List.cons_append, List.nil_append, not_true_eq_false, not_false_eq_true, Nat.sub_zero, dsJ6_numberOfTrailingZeros_0f7a4, jsJ6_numberOfTrailingZeros_0f7a4]
    exact h
  have h62 : ∀ i m, Q (some (.int (tz3 i m))) M k n → G 62 [(0, .int i), (1, .int m)] [] M 0 0 := by
    intro i m h
    refine e_g2 hG [(74, [0, 1])] 20 ?_
    simp only [e_wp_s, Option.getD_some, Option.isSome_some, Option.isSome_none, xis0, xis1, xis2, xis3, xis4, e_ks, lk_k, lk_c, List.lookup_nil, gt_c, vi_i, k1_n, k1_c, k2_n, k2_c, ar_n, ar_c, pk_n, pk_c, rm_0, rm_1, rm_2, rm_3, rm_4, rm_5, rc_9, rcs, fvs, rf_s, rf_n, isI_i, isL_l, isR_r, isR_n, isR_q, ct_i, ct_l, ct_r, ct_n, ct_q, tFs, tCs, tKs, tJs, tSs, e_nf, lgs, ↓reduceIte, true_and, and_true, false_and, and_false, or_true, true_or, false_or, or_false, Nat.reduceAdd, Nat.reduceEqDiff, Nat.reduceDiv, Nat.reduceLT, Nat.reduceLeDiff, Nat.zero_add, reduceCtorEq, Bool.false_eq_true, Option.toList_some, Option.toList_none, List.cons_append, List.nil_append, not_true_eq_false, not_false_eq_true, Nat.sub_zero, dsJ6_numberOfTrailingZeros_0f7a4, jsJ6_numberOfTrailingZeros_0f7a4]
    unfold tz3 at h
    split at h <;> rename_i c
    · simp only [c, if_true]; exact h74 _ _ h
    · simp only [c, if_false]; exact h74 _ _ h
  have h49 : ∀ i m, Q (some (.int (tz2 i m))) M k n → G 49 [(0, .int i), (1, .int m)] [] M 0 0 := by
    intro i m h
    refine e_g2 hG [(62, [0, 1])] 20 ?_
    simp only [e_wp_s, Option.getD_some, Option.isSome_some, Option.isSome_none, xis0, xis1, xis2, xis3, xis4, e_ks, lk_k, lk_c, List.lookup_nil, gt_c, vi_i, k1_n, k1_c, k2_n, k2_c, ar_n, ar_c, pk_n, pk_c, rm_0, rm_1, rm_2, rm_3, rm_4, rm_5, rc_9, rcs, fvs, rf_s, rf_n, isI_i, isL_l, isR_r, isR_n, isR_q, ct_i, ct_l, ct_r, ct_n, ct_q, tFs, tCs, tKs, tJs, tSs, e_nf, lgs, ↓reduceIte, true_and, and_true, false_and, and_false, or_true, true_or, false_or, or_false, Nat.reduceAdd, Nat.reduceEqDiff, Nat.reduceDiv, Nat.reduceLT, Nat.reduceLeDiff, Nat.zero_add, reduceCtorEq, Bool.false_eq_true, Option.toList_some, Option.toList_none, List.cons_append, List.nil_append, not_true_eq_false, not_false_eq_true, Nat.sub_zero, dsJ6_numberOfTrailingZeros_0f7a4, jsJ6_numberOfTrailingZeros_0f7a4]
    unfold tz2 at h
    split at h <;> rename_i c
    · simp only [c, if_true]; exact h62 _ _ h
    · simp only [c, if_false]; exact h62 _ _ h
  have h34 : ∀ i m, Q (some (.int (tz1 i m))) M k n → G 34 [(0, .int i), (1, .int m)] [] M 0 0 := by
    intro i m h
    refine e_g2 hG [(49, [0, 1])] 20 ?_
    simp only [e_wp_s, Option.getD_some, Option.isSome_some, Option.isSome_none, xis0, xis1, xis2, xis3, xis4, e_ks, lk_k, lk_c, List.lookup_nil, gt_c, vi_i, k1_n, k1_c, k2_n, k2_c, ar_n, ar_c, pk_n, pk_c, rm_0, rm_1, rm_2, rm_3, rm_4, rm_5, rc_9, rcs, fvs, rf_s, rf_n, isI_i, isL_l, isR_r, isR_n, isR_q, ct_i, ct_l, ct_r, ct_n, ct_q, tFs, tCs, tKs, tJs, tSs, e_nf, lgs, ↓reduceIte, true_and, and_true, false_and, and_false, or_true, true_or, false_or, or_false, Nat.reduceAdd, Nat.reduceEqDiff, Nat.reduceDiv, Nat.reduceLT, Nat.reduceLeDiff, Nat.zero_add, reduceCtorEq, Bool.false_eq_true, Option.toList_some, Option.toList_none, List.cons_append, List.nil_append, not_true_eq_false, not_false_eq_true, Nat.sub_zero, dsJ6_numberOfTrailingZeros_0f7a4, jsJ6_numberOfTrailingZeros_0f7a4]
    unfold tz1 at h
    split at h <;> rename_i c
    · simp only [c, if_true]; exact h49 _ _ h
    · simp only [c, if_false]; exact h49 _ _ h
  refine e_g2 hG [(34, [0, 1])] 30 ?_
  simp only [e_wp_s, Option.getD_some, Option.isSome_some, Option.isSome_none, xis0, xis1, xis2, xis3, xis4, e_ks, lk_k, lk_c, List.lookup_nil, gt_c, vi_i, k1_n, k1_c, k2_n, k2_c, ar_n, ar_c, pk_n, pk_c, rm_0, rm_1, rm_2, rm_3, rm_4, rm_5, rc_9, rcs, fvs, rf_s, rf_n, isI_i, isL_l, isR_r, isR_n, isR_q, ct_i, ct_l, ct_r, ct_n, ct_q, tFs, tCs, tKs, tJs, tSs, e_nf, lgs, ↓reduceIte, true_and, and_true, false_and, and_false, or_true, true_or, false_or, or_false, Nat.reduceAdd, Nat.reduceEqDiff, Nat.reduceDiv, Nat.reduceLT, Nat.reduceLeDiff, Nat.zero_add, reduceCtorEq, Bool.false_eq_true, Option.toList_some, Option.toList_none, List.cons_append, List.nil_append, not_true_eq_false, not_false_eq_true, Nat.sub_zero, dsJ6_numberOfTrailingZeros_0f7a4, jsJ6_numberOfTrailingZeros_0f7a4]
  unfold ntzI tz0 at hsp
  by_cases c1 : 0 < (x ^^^ (-1)) &&& (x - 1)
  · simp only [c1, if_true] at hsp ⊢
    split at hsp <;> rename_i c
    · simp only [c, if_true]; exact h34 _ _ hsp
    · simp only [c, if_false]; exact h34 _ _ hsp
  · simp only [c1, if_false] at hsp ⊢
    exact hsp
def hiL (x : Int64) : Int32 := ((x.toUInt64 >>> ((32 : Int32).toInt64.toUInt64 &&& Int64.toUInt64 63)).toInt64).toInt32
def nlzL (x : Int64) : Int32 := if hiL x = 0 then 32 + nlzI x.toInt32 else nlzI (hiL x)
def ntzL (x : Int64) : Int32 := if x.toInt32 = 0 then 32 + ntzI (hiL x) else ntzI x.toInt32
def csJ13_numberOfLeadingZeros_95d88 : CS := (cs_c 2 308 1 9 sp_J6_numberOfLeadingZeros_0f7a4 cs_0)
theorem csoJ13_numberOfLeadingZeros_95d88 : ∀ op x na cl sp, csJ13_numberOfLeadingZeros_95d88 op x = some (na, cl, sp) → CallOK 10 1 21 op x na cl sp := (cs_c_ok (caJ13_numberOfLeadingZeros_95d88_308 okJ6_numberOfLeadingZeros_0f7a4) cs_0_ok)
theorem xcJ13_numberOfLeadingZeros_95d88 : (∀ (Q : QT) (G : GT) (pc : Nat) (L : LV) (a0 : Value) (r : List Value) (M : HM) (k n : Nat), ex_i 10 3 1 false csJ13_numberOfLeadingZeros_95d88 Q G (.invokestatic 308) pc L (a0 :: r) M k n = (e_rm r ∧ e_rc M 9 [a0] ∧ sp_J6_numberOfLeadingZeros_0f7a4 [a0] M k n (fun v M' k' n' => G (pc + 3) L (v.toList ++ r) M' k' n'))) := (fun _ _ _ _ _ _ _ _ _ => xv2_1 rfl)
def sp_J13_numberOfLeadingZeros_95d88 : SP := fun as M k n Q => match as with
  | [.long x] => Q (some (.int (nlzL x))) M k n
  | _ => False
theorem okJ13_numberOfLeadingZeros_95d88 : OkJ13_numberOfLeadingZeros_95d88 sp_J13_numberOfLeadingZeros_95d88 := by
  refine inJ13_numberOfLeadingZeros_95d88 csoJ13_numberOfLeadingZeros_95d88 ?_
  intro as M k n Q hsp
  unfold sp_J13_numberOfLeadingZeros_95d88 at hsp
  split at hsp
  rotate_left
  · exact hsp.elim
  rename_i x
  refine ⟨0, 0, Nat.zero_le _, Nat.zero_le _, Nat.le_of_ble_eq_true rfl, fun G hG => ?_⟩
  refine e_g2 hG [] 30 ?_
  simp only [e_wp_s, Option.getD_some, Option.isSome_some, Option.isSome_none, xis0, xis1, xis2, xis3, xis4, e_ks, lk_k, lk_c, List.lookup_nil, gt_c, vi_i, k1_n, k1_c, k2_n, k2_c, ar_n, ar_c, pk_n, pk_c, rm_0, rm_1, rm_2, rm_3, rm_4, rm_5, rc_9, rcs, fvs, rf_s, rf_n, isI_i, isL_l, isR_r, isR_n, isR_q, ct_i, ct_l, ct_r, ct_n, ct_q, tFs, tCs, tKs, tJs, tSs, e_nf, lgs, ↓reduceIte, true_and, and_true, false_and, and_false, or_true, true_or, false_or, or_false, Nat.reduceAdd, Nat.reduceEqDiff, Nat.reduceDiv, Nat.reduceLT, Nat.reduceLeDiff, Nat.zero_add, reduceCtorEq, Bool.false_eq_true, Option.toList_some, Option.toList_none, List.cons_append, List.nil_append, not_true_eq_false, not_false_eq_true, Nat.sub_zero, dsJ13_numberOfLeadingZeros_95d88, jsJ13_numberOfLeadingZeros_95d88, xcJ13_numberOfLeadingZeros_95d88, ↓sp_J6_numberOfLeadingZeros_0f7a4]
  unfold nlzL at hsp
  unfold hiL at hsp
  split at hsp <;> rename_i c
  · simp only [c, if_true]; exact hsp
  · simp only [c, if_false]; exact hsp
def csJ13_numberOfTrailingZeros_95d88 : CS := (cs_c 2 311 1 9 sp_J6_numberOfTrailingZeros_0f7a4 cs_0)
theorem csoJ13_numberOfTrailingZeros_95d88 : ∀ op x na cl sp, csJ13_numberOfTrailingZeros_95d88 op x = some (na, cl, sp) → CallOK 10 1 21 op x na cl sp := (cs_c_ok (caJ13_numberOfTrailingZeros_95d88_311 okJ6_numberOfTrailingZeros_0f7a4) cs_0_ok)
theorem xcJ13_numberOfTrailingZeros_95d88 : (∀ (Q : QT) (G : GT) (pc : Nat) (L : LV) (a0 : Value) (r : List Value) (M : HM) (k n : Nat), ex_i 10 3 1 false csJ13_numberOfTrailingZeros_95d88 Q G (.invokestatic 311) pc L (a0 :: r) M k n = (e_rm r ∧ e_rc M 9 [a0] ∧ sp_J6_numberOfTrailingZeros_0f7a4 [a0] M k n (fun v M' k' n' => G (pc + 3) L (v.toList ++ r) M' k' n'))) := (fun _ _ _ _ _ _ _ _ _ => xv2_1 rfl)
def sp_J13_numberOfTrailingZeros_95d88 : SP := fun as M k n Q => match as with
  | [.long x] => Q (some (.int (ntzL x))) M k n
  | _ => False
theorem okJ13_numberOfTrailingZeros_95d88 : OkJ13_numberOfTrailingZeros_95d88 sp_J13_numberOfTrailingZeros_95d88 := by
  refine inJ13_numberOfTrailingZeros_95d88 csoJ13_numberOfTrailingZeros_95d88 ?_
  intro as M k n Q hsp
  unfold sp_J13_numberOfTrailingZeros_95d88 at hsp
  split at hsp
  rotate_left
  · exact hsp.elim
  rename_i x
  refine ⟨0, 0, Nat.zero_le _, Nat.zero_le _, Nat.le_of_ble_eq_true rfl, fun G hG => ?_⟩
  refine e_g2 hG [] 30 ?_
  simp only [e_wp_s, Option.getD_some, Option.isSome_some, Option.isSome_none, xis0, xis1, xis2, xis3, xis4, e_ks, lk_k, lk_c, List.lookup_nil, gt_c, vi_i, k1_n, k1_c, k2_n, k2_c, ar_n, ar_c, pk_n, pk_c, rm_0, rm_1, rm_2, rm_3, rm_4, rm_5, rc_9, rcs, fvs, rf_s, rf_n, isI_i, isL_l, isR_r, isR_n, isR_q, ct_i, ct_l, ct_r, ct_n, ct_q, tFs, tCs, tKs, tJs, tSs, e_nf, lgs, ↓reduceIte, true_and, and_true, false_and, and_false, or_true, true_or, false_or, or_false, Nat.reduceAdd, Nat.reduceEqDiff, Nat.reduceDiv, Nat.reduceLT, Nat.reduceLeDiff, Nat.zero_add, reduceCtorEq, Bool.false_eq_true, Option.toList_some, Option.toList_none, List.cons_append, List.nil_append, not_true_eq_false, not_false_eq_true, Nat.sub_zero, dsJ13_numberOfTrailingZeros_95d88, jsJ13_numberOfTrailingZeros_95d88, xcJ13_numberOfTrailingZeros_95d88, ↓sp_J6_numberOfTrailingZeros_0f7a4]
  unfold ntzL at hsp
  unfold hiL at hsp
  split at hsp <;> rename_i c
  · simp only [c, if_true]; exact hsp
  · simp only [c, if_false]; exact hsp
