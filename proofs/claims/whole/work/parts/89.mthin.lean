/-! the reference: thin -/
abbrev FSp : List Nat := [230, 237, 238, 239, 240, 241, 242, 243, 244]
def csX7_thin : CS := (cs_c 0 103 2 7 sp_X7_isSeries (cs_c 0 175 2 7 sp_X7_lastEnd (cs_c 0 187 2 7 sp_X7_tornBlocks (cs_c 0 111 3 7 sp_X7_spot (cs_c 0 190 2 7 sp_X7_reblock cs_0)))))
theorem csoX7_thin : ∀ op x na cl sp, csX7_thin op x = some (na, cl, sp) → CallOK 7 4 94 op x na cl sp := (cs_c_ok (caX7_thin_103 okX7_isSeries) (cs_c_ok (caX7_thin_175 okX7_lastEnd) (cs_c_ok (caX7_thin_187 okX7_tornBlocks) (cs_c_ok (caX7_thin_111 okX7_spot) (cs_c_ok (caX7_thin_190 okX7_reblock) cs_0_ok)))))
theorem xcX7_thin : (∀ (Q : QT) (G : GT) (pc : Nat) (L : LV) (a0 a1 : Value) (r : List Value) (M : HM) (k n : Nat), ex_i 7 9 1 false csX7_thin Q G (.invokevirtual 103) pc L (a1 :: a0 :: r) M k n = (e_rm r ∧ e_rc M 7 [a0, a1] ∧ sp_X7_isSeries [a0, a1] M k n (fun v M' k' n' => G (pc + 3) L (v.toList ++ r) M' k' n'))) ∧ (∀ (Q : QT) (G : GT) (pc : Nat) (L : LV) (a0 a1 : Value) (r : List Value) (M : HM) (k n : Nat), ex_i 7 9 1 false csX7_thin Q G (.invokevirtual 175) pc L (a1 :: a0 :: r) M k n = (e_rm r ∧ e_rc M 7 [a0, a1] ∧ sp_X7_lastEnd [a0, a1] M k n (fun v M' k' n' => G (pc + 3) L (v.toList ++ r) M' k' n'))) ∧ (∀ (Q : QT) (G : GT) (pc : Nat) (L : LV) (a0 a1 : Value) (r : List Value) (M : HM) (k n : Nat), ex_i 7 9 1 false csX7_thin Q G (.invokevirtual 187) pc L (a1 :: a0 :: r) M k n = (e_rm r ∧ e_rc M 7 [a0, a1] ∧ sp_X7_tornBlocks [a0, a1] M k n (fun v M' k' n' => G (pc + 3) L (v.toList ++ r) M' k' n'))) ∧ (∀ (Q : QT) (G : GT) (pc : Nat) (L : LV) (a0 a1 a2 : Value) (r : List Value) (M : HM) (k n : Nat), ex_i 7 9 1 false csX7_thin Q G (.invokevirtual 111) pc L (a2 :: a1 :: a0 :: r) M k n = (e_rm r ∧ e_rc M 7 [a0, a1, a2] ∧ sp_X7_spot [a0, a1, a2] M k n (fun v M' k' n' => G (pc + 3) L (v.toList ++ r) M' k' n'))) ∧ (∀ (Q : QT) (G : GT) (pc : Nat) (L : LV) (a0 a1 : Value) (r : List Value) (M : HM) (k n : Nat), ex_i 7 9 1 false csX7_thin Q G (.invokevirtual 190) pc L (a1 :: a0 :: r) M k n = (e_rm r ∧ e_rc M 7 [a0, a1] ∧ sp_X7_reblock [a0, a1] M k n (fun v M' k' n' => G (pc + 3) L (v.toList ++ r) M' k' n'))) := ⟨(fun _ _ _ _ _ _ _ _ _ _ => xv0_2 rfl), (fun _ _ _ _ _ _ _ _ _ _ => xv0_2 rfl), (fun _ _ _ _ _ _ _ _ _ _ => xv0_2 rfl), (fun _ _ _ _ _ _ _ _ _ _ _ => xv0_3 rfl), (fun _ _ _ _ _ _ _ _ _ _ => xv0_2 rfl)⟩
def sp_X7_thin : SP := fun as M k n Q => match as with
  | [.ref m, .int i, .int t, .int w] => ∃ A O L z, MRp A O M m L z ∧ ∀ U, MRp A O U m (mThin L i t w).2 z → Fr (Ss m) O O M U → Q (some (.int (mThin L i t w).1)) U k n
  | _ => False
set_option maxHeartbeats 1600000 in
set_option maxRecDepth 20000 in
theorem okX7_thin : OkX7_thin sp_X7_thin := by
  refine inX7_thin csoX7_thin ?_
  intro as M k n Q hsp
  unfold sp_X7_thin at hsp
  split at hsp
  rotate_left
  · exact hsp.elim
  rename_i m i t w
  obtain ⟨A, O, L, z, hR, hq⟩ := hsp
  have hM := hR.1
  have hO := hR.2.1
  have h0 := hM.1
  refine ⟨0, 0, Nat.zero_le _, Nat.zero_le _, Nat.le_of_ble_eq_true rfl, fun G hG => ?_⟩
  unfold mThin at hq
  rcases hR.at_ i with ⟨h1, h2⟩ | ⟨s, S, h1, rfl, h3, h4, hs, h6⟩
  · rw [h1] at hq
    refine e_g2 hG [] 40 ?_
    simp only [e_wp_s, Option.getD_some, Option.isSome_some, Option.isSome_none, xis0, xis1, xis2, xis3, xis4, e_ks, lk_k, lk_c, List.lookup_nil, gt_c, vi_i, k1_n, k1_c, k2_n, k2_c, ar_n, ar_c, pk_n, pk_c, rm_0, rm_1, rm_2, rm_3, rm_4, rm_5, rc_9, rcs, fvs, rf_s, rf_n, isI_i, isL_l, isR_r, isR_n, isR_q, ct_i, ct_l, ct_r, ct_n, ct_q, tFs, tCs, tKs, tJs, tSs, e_nf, lgs, ↓reduceIte, true_and, and_true, false_and, and_false, or_true, true_or, false_or, or_false, Nat.reduceAdd, Nat.reduceEqDiff, Nat.reduceDiv, Nat.reduceLT, Nat.reduceLeDiff, Nat.zero_add, reduceCtorEq, Bool.false_eq_true, Option.toList_some, Option.toList_none, List.cons_append, List.nil_append, not_true_eq_false, not_false_eq_true, Nat.sub_zero, dsX7_thin_0, dsX7_thin_1, dsX7_thin_2, jsX7_thin, xcX7_thin, h0, h2, ↓sp_X7_isSeries]
    exact hq M hR Fr.rf
  · simp only [h1, nI_clamp (show s < 2 ^ 31 by omega)] at hq
    have sc : (nI s).toNatClampNeg = s := nI_clamp (by omega)
    have sv : vp_in (nI s) 8 := vp_in_nI hs (by decide)
    obtain ⟨hH, hP, hB, hT, hSp⟩ := id h4
    have n227_231 : ¬ A 227 = A 231 := hO.ne (f := 227) (g := 231) rfl rfl (by decide)
    have n227_234 : ¬ A 227 = A 234 := hO.ne (f := 227) (g := 234) rfl rfl (by decide)
    have n231_227 : ¬ A 231 = A 227 := hO.ne (f := 231) (g := 227) rfl rfl (by decide)
    have n231_234 : ¬ A 231 = A 234 := hO.ne (f := 231) (g := 234) rfl rfl (by decide)
    have n234_227 : ¬ A 234 = A 227 := hO.ne (f := 234) (g := 227) rfl rfl (by decide)
    have n234_231 : ¬ A 234 = A 231 := hO.ne (f := 234) (g := 231) rfl rfl (by decide)
    have n230_237 : ¬ A 230 = A 237 := hO.ne (f := 230) (g := 237) rfl rfl (by decide)
    have n230_238 : ¬ A 230 = A 238 := hO.ne (f := 230) (g := 238) rfl rfl (by decide)
    have n230_239 : ¬ A 230 = A 239 := hO.ne (f := 230) (g := 239) rfl rfl (by decide)
    have n230_240 : ¬ A 230 = A 240 := hO.ne (f := 230) (g := 240) rfl rfl (by decide)
    have n230_241 : ¬ A 230 = A 241 := hO.ne (f := 230) (g := 241) rfl rfl (by decide)
    have n230_242 : ¬ A 230 = A 242 := hO.ne (f := 230) (g := 242) rfl rfl (by decide)
    have n230_243 : ¬ A 230 = A 243 := hO.ne (f := 230) (g := 243) rfl rfl (by decide)
    have n230_244 : ¬ A 230 = A 244 := hO.ne (f := 230) (g := 244) rfl rfl (by decide)
    have n237_230 : ¬ A 237 = A 230 := hO.ne (f := 237) (g := 230) rfl rfl (by decide)
    have n237_238 : ¬ A 237 = A 238 := hO.ne (f := 237) (g := 238) rfl rfl (by decide)
    have n237_239 : ¬ A 237 = A 239 := hO.ne (f := 237) (g := 239) rfl rfl (by decide)
    have n237_240 : ¬ A 237 = A 240 := hO.ne (f := 237) (g := 240) rfl rfl (by decide)
    have n237_241 : ¬ A 237 = A 241 := hO.ne (f := 237) (g := 241) rfl rfl (by decide)
    have n237_242 : ¬ A 237 = A 242 := hO.ne (f := 237) (g := 242) rfl rfl (by decide)
    have n237_243 : ¬ A 237 = A 243 := hO.ne (f := 237) (g := 243) rfl rfl (by decide)
    have n237_244 : ¬ A 237 = A 244 := hO.ne (f := 237) (g := 244) rfl rfl (by decide)
    have n238_230 : ¬ A 238 = A 230 := hO.ne (f := 238) (g := 230) rfl rfl (by decide)
    have n238_237 : ¬ A 238 = A 237 := hO.ne (f := 238) (g := 237) rfl rfl (by decide)
    have n238_239 : ¬ A 238 = A 239 := hO.ne (f := 238) (g := 239) rfl rfl (by decide)
    have n238_240 : ¬ A 238 = A 240 := hO.ne (f := 238) (g := 240) rfl rfl (by decide)
    have n238_241 : ¬ A 238 = A 241 := hO.ne (f := 238) (g := 241) rfl rfl (by decide)
    have n238_242 : ¬ A 238 = A 242 := hO.ne (f := 238) (g := 242) rfl rfl (by decide)
    have n238_243 : ¬ A 238 = A 243 := hO.ne (f := 238) (g := 243) rfl rfl (by decide)
    have n238_244 : ¬ A 238 = A 244 := hO.ne (f := 238) (g := 244) rfl rfl (by decide)
    have n239_230 : ¬ A 239 = A 230 := hO.ne (f := 239) (g := 230) rfl rfl (by decide)
    have n239_237 : ¬ A 239 = A 237 := hO.ne (f := 239) (g := 237) rfl rfl (by decide)
    have n239_238 : ¬ A 239 = A 238 := hO.ne (f := 239) (g := 238) rfl rfl (by decide)
    have n239_240 : ¬ A 239 = A 240 := hO.ne (f := 239) (g := 240) rfl rfl (by decide)
    have n239_241 : ¬ A 239 = A 241 := hO.ne (f := 239) (g := 241) rfl rfl (by decide)
    have n239_242 : ¬ A 239 = A 242 := hO.ne (f := 239) (g := 242) rfl rfl (by decide)
    have n239_243 : ¬ A 239 = A 243 := hO.ne (f := 239) (g := 243) rfl rfl (by decide)
    have n239_244 : ¬ A 239 = A 244 := hO.ne (f := 239) (g := 244) rfl rfl (by decide)
    have n240_230 : ¬ A 240 = A 230 := hO.ne (f := 240) (g := 230) rfl rfl (by decide)
    have n240_237 : ¬ A 240 = A 237 := hO.ne (f := 240) (g := 237) rfl rfl (by decide)
    have n240_238 : ¬ A 240 = A 238 := hO.ne (f := 240) (g := 238) rfl rfl (by decide)
    have n240_239 : ¬ A 240 = A 239 := hO.ne (f := 240) (g := 239) rfl rfl (by decide)
    have n240_241 : ¬ A 240 = A 241 := hO.ne (f := 240) (g := 241) rfl rfl (by decide)
    have n240_242 : ¬ A 240 = A 242 := hO.ne (f := 240) (g := 242) rfl rfl (by decide)
    have n240_243 : ¬ A 240 = A 243 := hO.ne (f := 240) (g := 243) rfl rfl (by decide)
    have n240_244 : ¬ A 240 = A 244 := hO.ne (f := 240) (g := 244) rfl rfl (by decide)
    have n241_230 : ¬ A 241 = A 230 := hO.ne (f := 241) (g := 230) rfl rfl (by decide)
    have n241_237 : ¬ A 241 = A 237 := hO.ne (f := 241) (g := 237) rfl rfl (by decide)
    have n241_238 : ¬ A 241 = A 238 := hO.ne (f := 241) (g := 238) rfl rfl (by decide)
    have n241_239 : ¬ A 241 = A 239 := hO.ne (f := 241) (g := 239) rfl rfl (by decide)
    have n241_240 : ¬ A 241 = A 240 := hO.ne (f := 241) (g := 240) rfl rfl (by decide)
    have n241_242 : ¬ A 241 = A 242 := hO.ne (f := 241) (g := 242) rfl rfl (by decide)
    have n241_243 : ¬ A 241 = A 243 := hO.ne (f := 241) (g := 243) rfl rfl (by decide)
    have n241_244 : ¬ A 241 = A 244 := hO.ne (f := 241) (g := 244) rfl rfl (by decide)
    have n242_230 : ¬ A 242 = A 230 := hO.ne (f := 242) (g := 230) rfl rfl (by decide)
    have n242_237 : ¬ A 242 = A 237 := hO.ne (f := 242) (g := 237) rfl rfl (by decide)
    have n242_238 : ¬ A 242 = A 238 := hO.ne (f := 242) (g := 238) rfl rfl (by decide)
    have n242_239 : ¬ A 242 = A 239 := hO.ne (f := 242) (g := 239) rfl rfl (by decide)
    have n242_240 : ¬ A 242 = A 240 := hO.ne (f := 242) (g := 240) rfl rfl (by decide)
    have n242_241 : ¬ A 242 = A 241 := hO.ne (f := 242) (g := 241) rfl rfl (by decide)
    have n242_243 : ¬ A 242 = A 243 := hO.ne (f := 242) (g := 243) rfl rfl (by decide)
    have n242_244 : ¬ A 242 = A 244 := hO.ne (f := 242) (g := 244) rfl rfl (by decide)
    have n243_230 : ¬ A 243 = A 230 := hO.ne (f := 243) (g := 230) rfl rfl (by decide)
    have n243_237 : ¬ A 243 = A 237 := hO.ne (f := 243) (g := 237) rfl rfl (by decide)
    have n243_238 : ¬ A 243 = A 238 := hO.ne (f := 243) (g := 238) rfl rfl (by decide)
    have n243_239 : ¬ A 243 = A 239 := hO.ne (f := 243) (g := 239) rfl rfl (by decide)
    have n243_240 : ¬ A 243 = A 240 := hO.ne (f := 243) (g := 240) rfl rfl (by decide)
    have n243_241 : ¬ A 243 = A 241 := hO.ne (f := 243) (g := 241) rfl rfl (by decide)
    have n243_242 : ¬ A 243 = A 242 := hO.ne (f := 243) (g := 242) rfl rfl (by decide)
    have n243_244 : ¬ A 243 = A 244 := hO.ne (f := 243) (g := 244) rfl rfl (by decide)
    have n244_230 : ¬ A 244 = A 230 := hO.ne (f := 244) (g := 230) rfl rfl (by decide)
    have n244_237 : ¬ A 244 = A 237 := hO.ne (f := 244) (g := 237) rfl rfl (by decide)
    have n244_238 : ¬ A 244 = A 238 := hO.ne (f := 244) (g := 238) rfl rfl (by decide)
    have n244_239 : ¬ A 244 = A 239 := hO.ne (f := 244) (g := 239) rfl rfl (by decide)
    have n244_240 : ¬ A 244 = A 240 := hO.ne (f := 244) (g := 240) rfl rfl (by decide)
    have n244_241 : ¬ A 244 = A 241 := hO.ne (f := 244) (g := 241) rfl rfl (by decide)
    have n244_242 : ¬ A 244 = A 242 := hO.ne (f := 244) (g := 242) rfl rfl (by decide)
    have n244_243 : ¬ A 244 = A 243 := hO.ne (f := 244) (g := 243) rfl rfl (by decide)
    have n227_230 : ¬ A 227 = A 230 := hO.ne (f := 227) (g := 230) rfl rfl (by decide)
    have n230_227 : ¬ A 230 = A 227 := hO.ne (f := 230) (g := 227) rfl rfl (by decide)
    have p300 := hP.2.1
    have l40 := hT.2.1
    have b300 := hB.2.1
    have s60 := hSp.2.1
    have htl := tornN_le S.2.2.2.1
    unfold mThS at hq
    generalize hlt : S.2.2.2.2 = lt at *
    generalize hbk : S.2.2.2.1 = bk at *
    generalize hsp : S.2.2.1 = sp at *
    have hg := lbl_le t (mpts bk)
    have pl := hP.1
    have sl := hSp.1
    have ll := hT.1
    obtain ⟨r227, k227, l227⟩ : mR M 227 m = some (A 227) ∧ mK M (A 227) = 9 ∧ mN M (A 227) = 8 := hM.2 227 rfl
    obtain ⟨r229, k229, l229⟩ : mR M 229 m = some (A 229) ∧ mK M (A 229) = 9 ∧ mN M (A 229) = 8 := hM.2 229 rfl
    obtain ⟨r230, k230, l230⟩ : mR M 230 m = some (A 230) ∧ mK M (A 230) = 9 ∧ mN M (A 230) = 8 := hM.2 230 rfl
    obtain ⟨r231, k231, l231⟩ : mR M 231 m = some (A 231) ∧ mK M (A 231) = 9 ∧ mN M (A 231) = 2560 := hM.2 231 rfl
    refine e_g2 hG [(10, [0, 1, 2, 3])] 60 ?_
    simp only [e_wp_s, Option.getD_some, Option.isSome_some, Option.isSome_none, xis0, xis1, xis2, xis3, xis4, e_ks, lk_k, lk_c, List.lookup_nil, gt_c, vi_i, k1_n, k1_c, k2_n, k2_c, ar_n, ar_c, pk_n, pk_c, rm_0, rm_1, rm_2, rm_3, rm_4, rm_5, rc_9, rcs, fvs, rf_s, rf_n, isI_i, isL_l, isR_r, isR_n, isR_q, ct_i, ct_l, ct_r, ct_n, ct_q, tFs, tCs, tKs, tJs, tSs, e_nf, lgs, ↓reduceIte, true_and, and_true, false_and, and_false, or_true, true_or, false_or, or_false, Nat.reduceAdd, Nat.reduceEqDiff, Nat.reduceDiv, Nat.reduceLT, Nat.reduceLeDiff, Nat.zero_add, reduceCtorEq, Bool.false_eq_true, Option.toList_some, Option.toList_none, List.cons_append, List.nil_append, not_true_eq_false, not_false_eq_true, Nat.sub_zero, dsX7_thin_0, dsX7_thin_1, dsX7_thin_2, jsX7_thin, xcX7_thin, h0, h6, i10, ↓sp_X7_isSeries]
    -- refused
    have bad : (w < 1 ∨ 1000000 < w ∨ ¬ (¬ t < 0 ∧ ¬ 1000000000 < t) ∨ ¬ t - t / w * w = 0 ∨ t < sEnd sp ∨ ¬ sEnd sp - sEnd sp / w * w = 0) → G 56 [] [] M 0 0 := fun hb => by
      rw [if_pos hb] at hq
      refine e_g2 hG [] 20 ?_
      simp only [e_wp_s, Option.getD_some, Option.isSome_some, Option.isSome_none, xis0, xis1, xis2, xis3, xis4, e_ks, lk_k, lk_c, List.lookup_nil, gt_c, vi_i, k1_n, k1_c, k2_n, k2_c, ar_n, ar_c, pk_n, pk_c, rm_0, rm_1, rm_2, rm_3, rm_4, rm_5, rc_9, rcs, fvs, rf_s, rf_n, isI_i, isL_l, isR_r, isR_n, isR_q, ct_i, ct_l, ct_r, ct_n, ct_q, tFs, tCs, tKs, tJs, tSs, e_nf, lgs, ↓reduceIte, true_and, and_true, false_and, and_false, or_true, true_or, false_or, or_false, Nat.reduceAdd, Nat.reduceEqDiff, Nat.reduceDiv, Nat.reduceLT, Nat.reduceLeDiff, Nat.zero_add, reduceCtorEq, Bool.false_eq_true, Option.toList_some, Option.toList_none, List.cons_append, List.nil_append, not_true_eq_false, not_false_eq_true, Nat.sub_zero, dsX7_thin_0, dsX7_thin_1, dsX7_thin_2, jsX7_thin, xcX7_thin]
      exact hq M hR Fr.rf
    by_cases c1 : w < 1
    · refine e_g2 hG [(56, [])] 60 ?_
      simp only [e_wp_s, Option.getD_some, Option.isSome_some, Option.isSome_none, xis0, xis1, xis2, xis3, xis4, e_ks, lk_k, lk_c, List.lookup_nil, gt_c, vi_i, k1_n, k1_c, k2_n, k2_c, ar_n, ar_c, pk_n, pk_c, rm_0, rm_1, rm_2, rm_3, rm_4, rm_5, rc_9, rcs, fvs, rf_s, rf_n, isI_i, isL_l, isR_r, isR_n, isR_q, ct_i, ct_l, ct_r, ct_n, ct_q, tFs, tCs, tKs, tJs, tSs, e_nf, lgs, ↓reduceIte, true_and, and_true, false_and, and_false, or_true, true_or, false_or, or_false, Nat.reduceAdd, Nat.reduceEqDiff, Nat.reduceDiv, Nat.reduceLT, Nat.reduceLeDiff, Nat.zero_add, reduceCtorEq, Bool.false_eq_true, Option.toList_some, Option.toList_none, List.cons_append, List.nil_append, not_true_eq_false, not_false_eq_true, Nat.sub_zero, dsX7_thin_0, dsX7_thin_1, dsX7_thin_2, jsX7_thin, xcX7_thin, c1]
      exact bad (Or.inl c1)
    by_cases c2 : 1000000 < w
    · refine e_g2 hG [(56, [])] 60 ?_
      simp only [e_wp_s, Option.getD_some, Option.isSome_some, Option.isSome_none, xis0, xis1, xis2, xis3, xis4, e_ks, lk_k, lk_c, List.lookup_nil, gt_c, vi_i, k1_n, k1_c, k2_n, k2_c, ar_n, ar_c, pk_n, pk_c, rm_0, rm_1, rm_2, rm_3, rm_4, rm_5, rc_9, rcs, fvs, rf_s, rf_n, isI_i, isL_l, isR_r, isR_n, isR_q, ct_i, ct_l, ct_r, ct_n, ct_q, tFs, tCs, tKs, tJs, tSs, e_nf, lgs, ↓reduceIte, true_and, and_true, false_and, and_false, or_true, true_or, false_or, or_false, Nat.reduceAdd, Nat.reduceEqDiff, Nat.reduceDiv, Nat.reduceLT, Nat.reduceLeDiff, Nat.zero_add, reduceCtorEq, Bool.false_eq_true, Option.toList_some, Option.toList_none, List.cons_append, List.nil_append, not_true_eq_false, not_false_eq_true, Nat.sub_zero, dsX7_thin_0, dsX7_thin_1, dsX7_thin_2, jsX7_thin, xcX7_thin, c1, c2]
      exact bad (Or.inr (Or.inl c2))
    have hw0 : ¬ w = 0 := fun e => c1 (by rw [e]; decide)
    by_cases c3 : t < 0
    · refine e_g2 hG [(56, [])] 60 ?_
      simp only [e_wp_s, Option.getD_some, Option.isSome_some, Option.isSome_none, xis0, xis1, xis2, xis3, xis4, e_ks, lk_k, lk_c, List.lookup_nil, gt_c, vi_i, k1_n, k1_c, k2_n, k2_c, ar_n, ar_c, pk_n, pk_c, rm_0, rm_1, rm_2, rm_3, rm_4, rm_5, rc_9, rcs, fvs, rf_s, rf_n, isI_i, isL_l, isR_r, isR_n, isR_q, ct_i, ct_l, ct_r, ct_n, ct_q, tFs, tCs, tKs, tJs, tSs, e_nf, lgs, ↓reduceIte, true_and, and_true, false_and, and_false, or_true, true_or, false_or, or_false, Nat.reduceAdd, Nat.reduceEqDiff, Nat.reduceDiv, Nat.reduceLT, Nat.reduceLeDiff, Nat.zero_add, reduceCtorEq, Bool.false_eq_true, Option.toList_some, Option.toList_none, List.cons_append, List.nil_append, not_true_eq_false, not_false_eq_true, Nat.sub_zero, dsX7_thin_0, dsX7_thin_1, dsX7_thin_2, jsX7_thin, xcX7_thin, c1, c2, c3]
      exact bad (Or.inr (Or.inr (Or.inl (fun q => q.1 c3))))
    by_cases c4 : 1000000000 < t
    · refine e_g2 hG [(56, [])] 60 ?_
      simp only [e_wp_s, Option.getD_some, Option.isSome_some, Option.isSome_none, xis0, xis1, xis2, xis3, xis4, e_ks, lk_k, lk_c, List.lookup_nil, gt_c, vi_i, k1_n, k1_c, k2_n, k2_c, ar_n, ar_c, pk_n, pk_c, rm_0, rm_1, rm_2, rm_3, rm_4, rm_5, rc_9, rcs, fvs, rf_s, rf_n, isI_i, isL_l, isR_r, isR_n, isR_q, ct_i, ct_l, ct_r, ct_n, ct_q, tFs, tCs, tKs, tJs, tSs, e_nf, lgs, ↓reduceIte, true_and, and_true, false_and, and_false, or_true, true_or, false_or, or_false, Nat.reduceAdd, Nat.reduceEqDiff, Nat.reduceDiv, Nat.reduceLT, Nat.reduceLeDiff, Nat.zero_add, reduceCtorEq, Bool.false_eq_true, Option.toList_some, Option.toList_none, List.cons_append, List.nil_append, not_true_eq_false, not_false_eq_true, Nat.sub_zero, dsX7_thin_0, dsX7_thin_1, dsX7_thin_2, jsX7_thin, xcX7_thin, c1, c2, c3, c4]
      exact bad (Or.inr (Or.inr (Or.inl (fun q => q.2 c4))))
    by_cases c5 : t - t / w * w = 0
    rotate_left
    · refine e_g2 hG [(56, [])] 60 ?_
      simp only [e_wp_s, Option.getD_some, Option.isSome_some, Option.isSome_none, xis0, xis1, xis2, xis3, xis4, e_ks, lk_k, lk_c, List.lookup_nil, gt_c, vi_i, k1_n, k1_c, k2_n, k2_c, ar_n, ar_c, pk_n, pk_c, rm_0, rm_1, rm_2, rm_3, rm_4, rm_5, rc_9, rcs, fvs, rf_s, rf_n, isI_i, isL_l, isR_r, isR_n, isR_q, ct_i, ct_l, ct_r, ct_n, ct_q, tFs, tCs, tKs, tJs, tSs, e_nf, lgs, ↓reduceIte, true_and, and_true, false_and, and_false, or_true, true_or, false_or, or_false, Nat.reduceAdd, Nat.reduceEqDiff, Nat.reduceDiv, Nat.reduceLT, Nat.reduceLeDiff, Nat.zero_add, reduceCtorEq, Bool.false_eq_true, Option.toList_some, Option.toList_none, List.cons_append, List.nil_append, not_true_eq_false, not_false_eq_true, Nat.sub_zero, dsX7_thin_0, dsX7_thin_1, dsX7_thin_2, jsX7_thin, xcX7_thin, c1, c2, c3, c4, c5, hw0]
      exact bad (Or.inr (Or.inr (Or.inr (Or.inl c5))))
    refine e_g2 hG [(43, [0, 1, 2, 3])] 60 ?_
    simp only [e_wp_s, Option.getD_some, Option.isSome_some, Option.isSome_none, xis0, xis1, xis2, xis3, xis4, e_ks, lk_k, lk_c, List.lookup_nil, gt_c, vi_i, k1_n, k1_c, k2_n, k2_c, ar_n, ar_c, pk_n, pk_c, rm_0, rm_1, rm_2, rm_3, rm_4, rm_5, rc_9, rcs, fvs, rf_s, rf_n, isI_i, isL_l, isR_r, isR_n, isR_q, ct_i, ct_l, ct_r, ct_n, ct_q, tFs, tCs, tKs, tJs, tSs, e_nf, lgs, ↓reduceIte, true_and, and_true, false_and, and_false, or_true, true_or, false_or, or_false, Nat.reduceAdd, Nat.reduceEqDiff, Nat.reduceDiv, Nat.reduceLT, Nat.reduceLeDiff, Nat.zero_add, reduceCtorEq, Bool.false_eq_true, Option.toList_some, Option.toList_none, List.cons_append, List.nil_append, not_true_eq_false, not_false_eq_true, Nat.sub_zero, dsX7_thin_0, dsX7_thin_1, dsX7_thin_2, jsX7_thin, xcX7_thin, c1, c2, c3, c4, c5, hw0, h0]
    refine ⟨A, s, sp, hM, hs, hSp, rfl, ?_⟩
    by_cases c6 : t < sEnd sp
    · refine e_g2 hG [(56, [])] 60 ?_
      simp only [e_wp_s, Option.getD_some, Option.isSome_some, Option.isSome_none, xis0, xis1, xis2, xis3, xis4, e_ks, lk_k, lk_c, List.lookup_nil, gt_c, vi_i, k1_n, k1_c, k2_n, k2_c, ar_n, ar_c, pk_n, pk_c, rm_0, rm_1, rm_2, rm_3, rm_4, rm_5, rc_9, rcs, fvs, rf_s, rf_n, isI_i, isL_l, isR_r, isR_n, isR_q, ct_i, ct_l, ct_r, ct_n, ct_q, tFs, tCs, tKs, tJs, tSs, e_nf, lgs, ↓reduceIte, true_and, and_true, false_and, and_false, or_true, true_or, false_or, or_false, Nat.reduceAdd, Nat.reduceEqDiff, Nat.reduceDiv, Nat.reduceLT, Nat.reduceLeDiff, Nat.zero_add, reduceCtorEq, Bool.false_eq_true, Option.toList_some, Option.toList_none, List.cons_append, List.nil_append, not_true_eq_false, not_false_eq_true, Nat.sub_zero, dsX7_thin_0, dsX7_thin_1, dsX7_thin_2, jsX7_thin, xcX7_thin, c6]
      exact bad (Or.inr (Or.inr (Or.inr (Or.inr (Or.inl c6)))))
    refine e_g2 hG [(51, [0, 1, 2, 3])] 60 ?_
    simp only [e_wp_s, Option.getD_some, Option.isSome_some, Option.isSome_none, xis0, xis1, xis2, xis3, xis4, e_ks, lk_k, lk_c, List.lookup_nil, gt_c, vi_i, k1_n, k1_c, k2_n, k2_c, ar_n, ar_c, pk_n, pk_c, rm_0, rm_1, rm_2, rm_3, rm_4, rm_5, rc_9, rcs, fvs, rf_s, rf_n, isI_i, isL_l, isR_r, isR_n, isR_q, ct_i, ct_l, ct_r, ct_n, ct_q, tFs, tCs, tKs, tJs, tSs, e_nf, lgs, ↓reduceIte, true_and, and_true, false_and, and_false, or_true, true_or, false_or, or_false, Nat.reduceAdd, Nat.reduceEqDiff, Nat.reduceDiv, Nat.reduceLT, Nat.reduceLeDiff, Nat.zero_add, reduceCtorEq, Bool.false_eq_true, Option.toList_some, Option.toList_none, List.cons_append, List.nil_append, not_true_eq_false, not_false_eq_true, Nat.sub_zero, dsX7_thin_0, dsX7_thin_1, dsX7_thin_2, jsX7_thin, xcX7_thin, c6, h0]
    refine ⟨A, s, sp, hM, hs, hSp, rfl, ?_⟩
    by_cases c7 : sEnd sp - sEnd sp / w * w = 0
    rotate_left
    · refine e_g2 hG [(56, [])] 60 ?_
      simp only [e_wp_s, Option.getD_some, Option.isSome_some, Option.isSome_none, xis0, xis1, xis2, xis3, xis4, e_ks, lk_k, lk_c, List.lookup_nil, gt_c, vi_i, k1_n, k1_c, k2_n, k2_c, ar_n, ar_c, pk_n, pk_c, rm_0, rm_1, rm_2, rm_3, rm_4, rm_5, rc_9, rcs, fvs, rf_s, rf_n, isI_i, isL_l, isR_r, isR_n, isR_q, ct_i, ct_l, ct_r, ct_n, ct_q, tFs, tCs, tKs, tJs, tSs, e_nf, lgs, ↓reduceIte, true_and, and_true, false_and, and_false, or_true, true_or, false_or, or_false, Nat.reduceAdd, Nat.reduceEqDiff, Nat.reduceDiv, Nat.reduceLT, Nat.reduceLeDiff, Nat.zero_add, reduceCtorEq, Bool.false_eq_true, Option.toList_some, Option.toList_none, List.cons_append, List.nil_append, not_true_eq_false, not_false_eq_true, Nat.sub_zero, dsX7_thin_0, dsX7_thin_1, dsX7_thin_2, jsX7_thin, xcX7_thin, c7, hw0]
      exact bad (Or.inr (Or.inr (Or.inr (Or.inr (Or.inr c7)))))
    rw [if_neg (by
      rintro (h | h | h | h | h | h)
      · exact c1 h
      · exact c2 h
      · exact h ⟨c3, c4⟩
      · exact h c5
      · exact c6 h
      · exact h c7)] at hq
    refine e_g2 hG [(59, [0, 1, 2, 3])] 60 ?_
    simp only [e_wp_s, Option.getD_some, Option.isSome_some, Option.isSome_none, xis0, xis1, xis2, xis3, xis4, e_ks, lk_k, lk_c, List.lookup_nil, gt_c, vi_i, k1_n, k1_c, k2_n, k2_c, ar_n, ar_c, pk_n, pk_c, rm_0, rm_1, rm_2, rm_3, rm_4, rm_5, rc_9, rcs, fvs, rf_s, rf_n, isI_i, isL_l, isR_r, isR_n, isR_q, ct_i, ct_l, ct_r, ct_n, ct_q, tFs, tCs, tKs, tJs, tSs, e_nf, lgs, ↓reduceIte, true_and, and_true, false_and, and_false, or_true, true_or, false_or, or_false, Nat.reduceAdd, Nat.reduceEqDiff, Nat.reduceDiv, Nat.reduceLT, Nat.reduceLeDiff, Nat.zero_add, reduceCtorEq, Bool.false_eq_true, Option.toList_some, Option.toList_none, List.cons_append, List.nil_append, not_true_eq_false, not_false_eq_true, Nat.sub_zero, dsX7_thin_0, dsX7_thin_1, dsX7_thin_2, jsX7_thin, xcX7_thin, c7, hw0]
    by_cases c8 : 0 < lt.length
    · rw [if_pos (Or.inl c8)] at hq
      have e1 : (0 : Int32) < nI lt.length := nI_lt (a := 0) c8 (by omega)
      refine e_g2 hG [] 60 ?_
      simp only [e_wp_s, Option.getD_some, Option.isSome_some, Option.isSome_none, xis0, xis1, xis2, xis3, xis4, e_ks, lk_k, lk_c, List.lookup_nil, gt_c, vi_i, k1_n, k1_c, k2_n, k2_c, ar_n, ar_c, pk_n, pk_c, rm_0, rm_1, rm_2, rm_3, rm_4, rm_5, rc_9, rcs, fvs, rf_s, rf_n, isI_i, isL_l, isR_r, isR_n, isR_q, ct_i, ct_l, ct_r, ct_n, ct_q, tFs, tCs, tKs, tJs, tSs, e_nf, lgs, ↓reduceIte, true_and, and_true, false_and, and_false, or_true, true_or, false_or, or_false, Nat.reduceAdd, Nat.reduceEqDiff, Nat.reduceDiv, Nat.reduceLT, Nat.reduceLeDiff, Nat.zero_add, reduceCtorEq, Bool.false_eq_true, Option.toList_some, Option.toList_none, List.cons_append, List.nil_append, not_true_eq_false, not_false_eq_true, Nat.sub_zero, dsX7_thin_0, dsX7_thin_1, dsX7_thin_2, jsX7_thin, xcX7_thin, h0, r229, k229, l229, sc, sv, ll, e1]
      exact hq M hR Fr.rf
    have e8 : ¬ (0 : Int32) < nI lt.length := fun q => c8 ((nI_ltI (a := 0) (by decide) (by omega)).mp q)
    refine e_g2 hG [(73, [0, 1, 2, 3])] 60 ?_
    simp only [e_wp_s, Option.getD_some, Option.isSome_some, Option.isSome_none, xis0, xis1, xis2, xis3, xis4, e_ks, lk_k, lk_c, List.lookup_nil, gt_c, vi_i, k1_n, k1_c, k2_n, k2_c, ar_n, ar_c, pk_n, pk_c, rm_0, rm_1, rm_2, rm_3, rm_4, rm_5, rc_9, rcs, fvs, rf_s, rf_n, isI_i, isL_l, isR_r, isR_n, isR_q, ct_i, ct_l, ct_r, ct_n, ct_q, tFs, tCs, tKs, tJs, tSs, e_nf, lgs, ↓reduceIte, true_and, and_true, false_and, and_false, or_true, true_or, false_or, or_false, Nat.reduceAdd, Nat.reduceEqDiff, Nat.reduceDiv, Nat.reduceLT, Nat.reduceLeDiff, Nat.zero_add, reduceCtorEq, Bool.false_eq_true, Option.toList_some, Option.toList_none, List.cons_append, List.nil_append, not_true_eq_false, not_false_eq_true, Nat.sub_zero, dsX7_thin_0, dsX7_thin_1, dsX7_thin_2, jsX7_thin, xcX7_thin, h0, r229, k229, l229, sc, sv, ll, e8]
    refine ⟨A, s, bk, hM, hs, hB, rfl, ?_⟩
    by_cases c9 : 0 < tornN bk
    · rw [if_pos (Or.inr c9)] at hq
      have e1 : (0 : Int32) < nI (tornN bk) := nI_lt (a := 0) c9 (by omega)
      refine e_g2 hG [] 60 ?_
      simp only [e_wp_s, Option.getD_some, Option.isSome_some, Option.isSome_none, xis0, xis1, xis2, xis3, xis4, e_ks, lk_k, lk_c, List.lookup_nil, gt_c, vi_i, k1_n, k1_c, k2_n, k2_c, ar_n, ar_c, pk_n, pk_c, rm_0, rm_1, rm_2, rm_3, rm_4, rm_5, rc_9, rcs, fvs, rf_s, rf_n, isI_i, isL_l, isR_r, isR_n, isR_q, ct_i, ct_l, ct_r, ct_n, ct_q, tFs, tCs, tKs, tJs, tSs, e_nf, lgs, ↓reduceIte, true_and, and_true, false_and, and_false, or_true, true_or, false_or, or_false, Nat.reduceAdd, Nat.reduceEqDiff, Nat.reduceDiv, Nat.reduceLT, Nat.reduceLeDiff, Nat.zero_add, reduceCtorEq, Bool.false_eq_true, Option.toList_some, Option.toList_none, List.cons_append, List.nil_append, not_true_eq_false, not_false_eq_true, Nat.sub_zero, dsX7_thin_0, dsX7_thin_1, dsX7_thin_2, jsX7_thin, xcX7_thin, e1]
      exact hq M hR Fr.rf
    have e9 : ¬ (0 : Int32) < nI (tornN bk) := fun q => c9 ((nI_ltI (a := 0) (by decide) (by omega)).mp q)
    rw [if_neg (by rintro (h | h); exact c8 h; exact c9 h)] at hq
    rw [← mTn_str] at hq
    generalize hgg : lbl t (mpts bk) = g at *
    have hfl := mTh_len w ((mpts bk).take g) none sp (fun h => absurd rfl h)
    generalize hfin : mTh w none sp ((mpts bk).take g) = fin at *
    generalize hpp : mpts bk = pts at *
    -- the points come down
    have move : ∀ U, MC O A m FSp M U → MI A s M U → mSp A U s fin → ¬ 60 < sp.length + mTn w none (pts.take g) → G 498 [(0, .ref m), (1, .int (nI s)), (5, .int (nI g))] [] U 0 0 := by
      intro U hC hI u1 c10
      rw [if_neg c10] at hq
      have hMU := hC.ms hM
      have u2 := hC.mP (s := s) (by decide) hP
      have loop : ∀ d j V, j + d = pts.length - g → MC O A m [227, 231, 234] U V → MI A s U V → aI V (A 227) = aI U (A 227) → (∀ q, aI V (A 231) q = if 320 * s ≤ q ∧ q < 320 * s + j then aI U (A 231) (q + g) else aI U (A 231) q) → (∀ q, aL V (A 234) q = if 320 * s ≤ q ∧ q < 320 * s + j then aL U (A 234) (q + g) else aL U (A 234) q) → G 502 [(0, .ref m), (1, .int (nI s)), (5, .int (nI g)), (6, .int (nI (g + j)))] [] V 0 0 := by
        intro d
        induction d with
        | zero =>
          intro j V hj hCV hIV v7 v1 v4
          have hMV := hCV.ms hMU
          have y0 := hMV.1
          obtain ⟨rv227, kv227, lv227⟩ : mR V 227 m = some (A 227) ∧ mK V (A 227) = 9 ∧ mN V (A 227) = 8 := hMV.2 227 rfl
          have vl : aI V (A 227) s = nI pts.length := by rw [v7]; exact u2.1
          have e1 : ¬ nI (g + j) < nI pts.length := nI_nlt (by omega) (by omega)
          have e2 : nI pts.length - nI g = nI (pts.length - g) := nI_sub hg
          have hC3 : MC O A m [227, 231, 234] U (tI V (A 227) s (nI (pts.length - g))) := MC.tI hCV hO (by decide) rfl
          have hI3 := (MI.tI (f := 227) (i := s) hIV hO rfl (Or.inl (Nat.div_one s)) (v := nI (pts.length - g)))
          have hM3 := hC3.ms hMU
          have hS3 := hC3.mSp (s := s) (fun f h1 h2 => by intro hf; simp at hf; omega) (by decide) u1
          have hP3 : mP A (tI V (A 227) s (nI (pts.length - g))) s (pts.drop g) := by
            refine ⟨?_, ?_, ?_⟩
            · simp only [haI, and_self, if_true]; rw [List.length_drop]
            · rw [List.length_drop]; omega
            · refine rdf_eq (fun q y hy => ?_)
              have hql := (List.getElem?_eq_some_iff.mp hy).1
              rw [List.length_drop] at hql
              rw [List.getElem?_drop] at hy
              obtain ⟨w1, w2, -⟩ := mP_at u2 hy
              simp only [haI, haL, n231_227, false_and, if_false]
              rw [v1, v4, if_pos (by omega), if_pos (by omega), show 320 * s + q + g = 320 * s + (g + q) by omega, w1, w2]
          refine e_g2 hG [(584, [0, 1])] 60 ?_
          simp only [e_wp_s, Option.getD_some, Option.isSome_some, Option.isSome_none, xis0, xis1, xis2, xis3, xis4, e_ks, lk_k, lk_c, List.lookup_nil, gt_c, vi_i, k1_n, k1_c, k2_n, k2_c, ar_n, ar_c, pk_n, pk_c, rm_0, rm_1, rm_2, rm_3, rm_4, rm_5, rc_9, rcs, fvs, rf_s, rf_n, isI_i, isL_l, isR_r, isR_n, isR_q, ct_i, ct_l, ct_r, ct_n, ct_q, tFs, tCs, tKs, tJs, tSs, e_nf, lgs, ↓reduceIte, true_and, and_true, false_and, and_false, or_true, true_or, false_or, or_false, Nat.reduceAdd, Nat.reduceEqDiff, Nat.reduceDiv, Nat.reduceLT, Nat.reduceLeDiff, Nat.zero_add, reduceCtorEq, Bool.false_eq_true, Option.toList_some, Option.toList_none, List.cons_append, List.nil_append, not_true_eq_false, not_false_eq_true, Nat.sub_zero, dsX7_thin_0, dsX7_thin_1, dsX7_thin_2, jsX7_thin, xcX7_thin, y0, rv227, kv227, lv227, sc, sv, vl, e1, e2]
          generalize tI V (A 227) s (nI (pts.length - g)) = X at *
          have x0 := hM3.1
          refine e_g2 hG [(589, [0, 1])] 60 ?_
          simp only [e_wp_s, Option.getD_some, Option.isSome_some, Option.isSome_none, xis0, xis1, xis2, xis3, xis4, e_ks, lk_k, lk_c, List.lookup_nil, gt_c, vi_i, k1_n, k1_c, k2_n, k2_c, ar_n, ar_c, pk_n, pk_c, rm_0, rm_1, rm_2, rm_3, rm_4, rm_5, rc_9, rcs, fvs, rf_s, rf_n, isI_i, isL_l, isR_r, isR_n, isR_q, ct_i, ct_l, ct_r, ct_n, ct_q, tFs, tCs, tKs, tJs, tSs, e_nf, lgs, ↓reduceIte, true_and, and_true, false_and, and_false, or_true, true_or, false_or, or_false, Nat.reduceAdd, Nat.reduceEqDiff, Nat.reduceDiv, Nat.reduceLT, Nat.reduceLeDiff, Nat.zero_add, reduceCtorEq, Bool.false_eq_true, Option.toList_some, Option.toList_none, List.cons_append, List.nil_append, not_true_eq_false, not_false_eq_true, Nat.sub_zero, dsX7_thin_0, dsX7_thin_1, dsX7_thin_2, jsX7_thin, xcX7_thin, x0]
          refine ⟨O, A, s, pts.drop g, hM3, hO, hs, hP3, rfl, fun Y hCY hIY hPY hBY => ?_⟩
          have hMY := hCY.ms hM3
          have yy0 := hMY.1
          have hSY := hCY.mSp (s := s) (fun f h1 h2 => by intro hf; simp at hf; omega) (by decide) hS3
          obtain ⟨ry230, ky230, ly230⟩ : mR Y 230 m = some (A 230) ∧ mK Y (A 230) = 9 ∧ mN Y (A 230) = 8 := hMY.2 230 rfl
          have yl := hSY.1
          have hCx : MC O A m FS7 M Y := ((hC.mono (fun f hf => by revert hf; revert f; decide)).tr (hC3.mono (fun f hf => by revert hf; revert f; decide))).tr (hCY.mono (fun f hf => by revert hf; revert f; decide))
          have hIx := (hI.tr hI3).tr hIY
          refine e_g2 hG [] 60 ?_
          simp only [e_wp_s, Option.getD_some, Option.isSome_some, Option.isSome_none, xis0, xis1, xis2, xis3, xis4, e_ks, lk_k, lk_c, List.lookup_nil, gt_c, vi_i, k1_n, k1_c, k2_n, k2_c, ar_n, ar_c, pk_n, pk_c, rm_0, rm_1, rm_2, rm_3, rm_4, rm_5, rc_9, rcs, fvs, rf_s, rf_n, isI_i, isL_l, isR_r, isR_n, isR_q, ct_i, ct_l, ct_r, ct_n, ct_q, tFs, tCs, tKs, tJs, tSs, e_nf, lgs, ↓reduceIte, true_and, and_true, false_and, and_false, or_true, true_or, false_or, or_false, Nat.reduceAdd, Nat.reduceEqDiff, Nat.reduceDiv, Nat.reduceLT, Nat.reduceLeDiff, Nat.zero_add, reduceCtorEq, Bool.false_eq_true, Option.toList_some, Option.toList_none, List.cons_append, List.nil_append, not_true_eq_false, not_false_eq_true, Nat.sub_zero, dsX7_thin_0, dsX7_thin_1, dsX7_thin_2, jsX7_thin, xcX7_thin, yy0, ry230, ky230, ly230, sc, sv, yl]
          have hrbm : mpts (rb (pts.drop g)) = pts.drop g := by
            have key : ∀ (r : List PT) (bk : List BLK), mpts (r.foldl apM bk) = mpts bk ++ r := by
              intro r
              induction r with
              | nil => intro bk; rw [List.append_nil]; rfl
              | cons p r ih => intro bk; rw [List.foldl_cons, ih, apM_pts, List.append_assoc]; rfl
            exact key (pts.drop g) []
          refine hq Y (hR.mut h3 hCx hIx (by decide) ⟨hCx.mH (by decide) hH, ?_, hBY, ?_, hSY⟩) hCx.2.2.2.1
          · show mP A Y s (mpts (rb (pts.drop g)))
            rw [hrbm]; exact hPY
          · show mT A Y s lt
            exact hCY.mT (by decide) (hC3.mT (by decide) (hC.mT (by decide) hT))
        | succ d ih =>
          intro j V hj hCV hIV v7 v1 v4
          have hMV := hCV.ms hMU
          have y0 := hMV.1
          obtain ⟨rv227, kv227, lv227⟩ : mR V 227 m = some (A 227) ∧ mK V (A 227) = 9 ∧ mN V (A 227) = 8 := hMV.2 227 rfl
          obtain ⟨rv231, kv231, lv231⟩ : mR V 231 m = some (A 231) ∧ mK V (A 231) = 9 ∧ mN V (A 231) = 2560 := hMV.2 231 rfl
          obtain ⟨rv234, kv234, lv234⟩ : mR V 234 m = some (A 234) ∧ mK V (A 234) = 10 ∧ mN V (A 234) = 2560 := hMV.2 234 rfl
          have vl : aI V (A 227) s = nI pts.length := by rw [v7]; exact u2.1
          have e1 : nI (g + j) < nI pts.length := nI_lt (by omega) (by omega)
          have e2 : nI (g + j) - nI g = nI j := by rw [nI_sub (by omega)]; congr 1; omega
          have i1 : (nI (320 * s + (g + j))).toNatClampNeg = 320 * s + (g + j) := nI_clamp (by omega)
          have i2 : vp_in (nI (320 * s + (g + j))) 2560 := vp_in_nI (by omega) (by decide)
          have i3 : (nI (320 * s + j)).toNatClampNeg = 320 * s + j := nI_clamp (by omega)
          have i4 : vp_in (nI (320 * s + j)) 2560 := vp_in_nI (by omega) (by decide)
          refine e_g2 hG [(502, [0, 1, 5, 6])] 60 ?_
          simp only [e_wp_s, Option.getD_some, Option.isSome_some, Option.isSome_none, xis0, xis1, xis2, xis3, xis4, e_ks, lk_k, lk_c, List.lookup_nil, gt_c, vi_i, k1_n, k1_c, k2_n, k2_c, ar_n, ar_c, pk_n, pk_c, rm_0, rm_1, rm_2, rm_3, rm_4, rm_5, rc_9, rcs, fvs, rf_s, rf_n, isI_i, isL_l, isR_r, isR_n, isR_q, ct_i, ct_l, ct_r, ct_n, ct_q, tFs, tCs, tKs, tJs, tSs, e_nf, lgs, ↓reduceIte, true_and, and_true, false_and, and_false, or_true, true_or, false_or, or_false, Nat.reduceAdd, Nat.reduceEqDiff, Nat.reduceDiv, Nat.reduceLT, Nat.reduceLeDiff, Nat.zero_add, reduceCtorEq, Bool.false_eq_true, Option.toList_some, Option.toList_none, List.cons_append, List.nil_append, not_true_eq_false, not_false_eq_true, Nat.sub_zero, dsX7_thin_0, dsX7_thin_1, dsX7_thin_2, jsX7_thin, xcX7_thin, y0, rv227, kv227, lv227, rv231, kv231, lv231, rv234, kv234, lv234, sc, sv, vl, e1, e2, i1, i2, i3, i4, nI_1, hmK, hmN, hmI, hmL, hmR, haI, haL, haR, ↓sp_X7_spot, spt]
          refine ih (j + 1) _ (by omega) (MC.tL (MC.tI hCV hO (by decide) rfl) hO (by decide) rfl) (MI.tL (MI.tI hIV hO rfl (Or.inl (dq 320 s _ (by omega)))) hO rfl (Or.inl (dq 320 s _ (by omega)))) ?_ (fun q => ?_) (fun q => ?_)
          · funext q; simp only [haI, n227_231, false_and, if_false]; rw [v7]
          · simp only [haI, true_and]
            by_cases c : q = 320 * s + j
            · rw [if_pos c, v1, if_neg (by omega), if_pos (by omega), c]; congr 1; omega
            · rw [if_neg c, v1]
              by_cases c2 : 320 * s ≤ q ∧ q < 320 * s + j
              · rw [if_pos c2, if_pos (by omega)]
              · rw [if_neg c2, if_neg (by omega)]
          · simp only [haL, true_and]
            by_cases c : q = 320 * s + j
            · rw [if_pos c, v4, if_neg (by omega), if_pos (by omega), c]; congr 1; omega
            · rw [if_neg c, v4]
              by_cases c2 : 320 * s ≤ q ∧ q < 320 * s + j
              · rw [if_pos c2, if_pos (by omega)]
              · rw [if_neg c2, if_neg (by omega)]
      refine e_g2 hG [(502, [0, 1, 5, 6])] 60 ?_
      simp only [e_wp_s, Option.getD_some, Option.isSome_some, Option.isSome_none, xis0, xis1, xis2, xis3, xis4, e_ks, lk_k, lk_c, List.lookup_nil, gt_c, vi_i, k1_n, k1_c, k2_n, k2_c, ar_n, ar_c, pk_n, pk_c, rm_0, rm_1, rm_2, rm_3, rm_4, rm_5, rc_9, rcs, fvs, rf_s, rf_n, isI_i, isL_l, isR_r, isR_n, isR_q, ct_i, ct_l, ct_r, ct_n, ct_q, tFs, tCs, tKs, tJs, tSs, e_nf, lgs, ↓reduceIte, true_and, and_true, false_and, and_false, or_true, true_or, false_or, or_false, Nat.reduceAdd, Nat.reduceEqDiff, Nat.reduceDiv, Nat.reduceLT, Nat.reduceLeDiff, Nat.zero_add, reduceCtorEq, Bool.false_eq_true, Option.toList_some, Option.toList_none, List.cons_append, List.nil_append, not_true_eq_false, not_false_eq_true, Nat.sub_zero, dsX7_thin_0, dsX7_thin_1, dsX7_thin_2, jsX7_thin, xcX7_thin]
      exact loop (pts.length - g) 0 U (by omega) MC.rf MI.rf rfl (fun q => by rw [if_neg (by omega)]) (fun q => by rw [if_neg (by omega)])
    -- the spans grow
    have grow : ¬ 60 < sp.length + mTn w none (pts.take g) → ∀ d k V o spk, k + d = g → MC O A m FSp M V → MI A s M V → mSp A V s spk → (o ≠ none → spk ≠ []) → ((k = 0 ∧ o = none) ∨ ∃ p, 0 < k ∧ pts[k - 1]? = some p ∧ o = some (p.1 / w)) → mTh w o spk ((pts.take g).drop k) = fin → G 177 [(0, .ref m), (1, .int (nI s)), (3, .int w), (5, .int (nI g)), (6, .int (nI k))] [] V 0 0 := by
      intro c10 d
      induction d with
      | zero =>
        intro k V o spk hk hC hI hSk ho hpv he
        have e1 : ¬ nI k < nI g := nI_nlt (by omega) (by omega)
        rw [List.drop_eq_nil_of_le (by rw [List.length_take]; omega), mTh] at he
        rw [he] at hSk
        refine e_g2 hG [(498, [0, 1, 5])] 60 ?_
        simp only [e_wp_s, Option.getD_some, Option.isSome_some, Option.isSome_none, xis0, xis1, xis2, xis3, xis4, e_ks, lk_k, lk_c, List.lookup_nil, gt_c, vi_i, k1_n, k1_c, k2_n, k2_c, ar_n, ar_c, pk_n, pk_c, rm_0, rm_1, rm_2, rm_3, rm_4, rm_5, rc_9, rcs, fvs, rf_s, rf_n, isI_i, isL_l, isR_r, isR_n, isR_q, ct_i, ct_l, ct_r, ct_n, ct_q, tFs, tCs, tKs, tJs, tSs, e_nf, lgs, ↓reduceIte, true_and, and_true, false_and, and_false, or_true, true_or, false_or, or_false, Nat.reduceAdd, Nat.reduceEqDiff, Nat.reduceDiv, Nat.reduceLT, Nat.reduceLeDiff, Nat.zero_add, reduceCtorEq, Bool.false_eq_true, Option.toList_some, Option.toList_none, List.cons_append, List.nil_append, not_true_eq_false, not_false_eq_true, Nat.sub_zero, dsX7_thin_0, dsX7_thin_1, dsX7_thin_2, jsX7_thin, xcX7_thin, e1]
        exact move V hC hI hSk c10
      | succ d ih =>
        intro k V o spk hk hC hI hSk ho hpv he
        have hMV := hC.ms hM
        have y0 := hMV.1
        obtain ⟨rv230, kv230, lv230⟩ : mR V 230 m = some (A 230) ∧ mK V (A 230) = 9 ∧ mN V (A 230) = 8 := hMV.2 230 rfl
        obtain ⟨rv231, kv231, lv231⟩ : mR V 231 m = some (A 231) ∧ mK V (A 231) = 9 ∧ mN V (A 231) = 2560 := hMV.2 231 rfl
        have hPV := hC.mP (s := s) (by decide) hP
        have e1 : nI k < nI g := nI_lt (by omega) (by omega)
        obtain ⟨q, hx⟩ : ∃ q, pts[k]? = some q := ⟨_, List.getElem?_eq_getElem (by omega)⟩
        obtain ⟨r1, r2, r3, r4⟩ := mP_at hPV hx
        have j1 : (nI (320 * s + k)).toNatClampNeg = 320 * s + k := nI_clamp (by omega)
        have j2 : vp_in (nI (320 * s + k)) 2560 := vp_in_nI (by omega) (by decide)
        have hx2 : (pts.take g)[k]? = some q := by rw [List.getElem?_take, if_pos (by omega)]; exact hx
        rw [drop_at hx2] at he
        have hlen := mTh_len w (q :: (pts.take g).drop (k + 1)) o spk ho
        rw [he] at hlen
        rw [mTh] at he
        rw [mTn] at hlen
        have k60 := hSk.2.1
        have kl := hSk.1
        have tail : ∀ W sp0 y, MC O A m FSp V W → MI A s V W → sp0.length < 60 → aI W (A 230) s = nI (sp0.length + 1) → (∀ i x, sp0[i]? = some x → spv A W (70 * s + i) = x) → spv A W (70 * s + sp0.length) = y → mTh w (some (q.1 / w)) (sp0 ++ [tkS y q.2]) ((pts.take g).drop (k + 1)) = fin → G 366 [(0, .ref m), (1, .int (nI s)), (3, .int w), (5, .int (nI g)), (6, .int (nI k)), (7, .int (nI (320 * s + k))), (8, .int (nI (70 * s + sp0.length)))] [] W 0 0 := by
          intro W sp0 y hCW hIW l60 w230 wold wy hfe
          have hMW := hCW.ms hMV
          have w0 := hMW.1
          obtain ⟨rw234, kw234, lw234⟩ : mR W 234 m = some (A 234) ∧ mK W (A 234) = 10 ∧ mN W (A 234) = 2560 := hMW.2 234 rfl
          obtain ⟨rw239, kw239, lw239⟩ : mR W 239 m = some (A 239) ∧ mK W (A 239) = 9 ∧ mN W (A 239) = 560 := hMW.2 239 rfl
          obtain ⟨rw240, kw240, lw240⟩ : mR W 240 m = some (A 240) ∧ mK W (A 240) = 10 ∧ mN W (A 240) = 560 := hMW.2 240 rfl
          obtain ⟨rw241, kw241, lw241⟩ : mR W 241 m = some (A 241) ∧ mK W (A 241) = 10 ∧ mN W (A 241) = 560 := hMW.2 241 rfl
          obtain ⟨rw242, kw242, lw242⟩ : mR W 242 m = some (A 242) ∧ mK W (A 242) = 10 ∧ mN W (A 242) = 560 := hMW.2 242 rfl
          obtain ⟨rw244, kw244, lw244⟩ : mR W 244 m = some (A 244) ∧ mK W (A 244) = 10 ∧ mN W (A 244) = 560 := hMW.2 244 rfl
          have hPW := hCW.mP (s := s) (by decide) hPV
          obtain ⟨-, s2, -, -⟩ := mP_at hPW hx
          have y1 : aI W (A 237) (70 * s + sp0.length) = y.1 := by rw [← wy]; rfl
          have y2 : aI W (A 238) (70 * s + sp0.length) = y.2.1 := by rw [← wy]; rfl
          have y3 : aI W (A 239) (70 * s + sp0.length) = y.2.2.1 := by rw [← wy]; rfl
          have y4 : aL W (A 240) (70 * s + sp0.length) = y.2.2.2.1 := by rw [← wy]; rfl
          have y5 : aL W (A 241) (70 * s + sp0.length) = y.2.2.2.2.1 := by rw [← wy]; rfl
          have y6 : aL W (A 242) (70 * s + sp0.length) = y.2.2.2.2.2.1 := by rw [← wy]; rfl
          have y7 : aL W (A 243) (70 * s + sp0.length) = y.2.2.2.2.2.2.1 := by rw [← wy]; rfl
          have k1 : (nI (70 * s + sp0.length)).toNatClampNeg = 70 * s + sp0.length := nI_clamp (by omega)
          have k2 : vp_in (nI (70 * s + sp0.length)) 560 := vp_in_nI (by omega) (by decide)
          have n4 : ∀ f, f ∈ ([239, 240, 241, 242, 244] : List Nat) → ¬ A 234 = A f := fun f hf => hO.ne (f := 234) (g := f) rfl (by revert hf; revert f; decide) (by revert hf; revert f; decide)
          have n234_239 := n4 239 (by decide)
          have n234_240 := n4 240 (by decide)
          have n234_241 := n4 241 (by decide)
          have n234_242 := n4 242 (by decide)
          have n234_244 := n4 244 (by decide)
          have key : ∀ lo hi, lo = (if q.2 < y.2.2.2.2.1 then q.2 else y.2.2.2.2.1) → hi = (if y.2.2.2.2.2.1 < q.2 then q.2 else y.2.2.2.2.2.1) → G 177 [(0, .ref m), (1, .int (nI s)), (3, .int w), (5, .int (nI g)), (6, .int (nI (k + 1)))] [] (tL (tL (tL (tL (tI W (A 239) (70 * s + sp0.length) (y.2.2.1 + 1)) (A 240) (70 * s + sp0.length) (y.2.2.2.1 + q.2)) (A 241) (70 * s + sp0.length) lo) (A 242) (70 * s + sp0.length) hi) (A 244) (70 * s + sp0.length) q.2) 0 0 := by
            intro lo hi hlo hhi
            refine ih (k + 1) _ (some (q.1 / w)) (sp0 ++ [tkS y q.2]) (by omega) (hC.tr (MC.tL (MC.tL (MC.tL (MC.tL (MC.tI hCW hO (by decide) rfl) hO (by decide) rfl) hO (by decide) rfl) hO (by decide) rfl) hO (by decide) rfl)) (hI.tr (MI.tL (MI.tL (MI.tL (MI.tL (MI.tI hIW hO rfl (Or.inl (dq 70 s _ (by omega)))) hO rfl (Or.inl (dq 70 s _ (by omega)))) hO rfl (Or.inl (dq 70 s _ (by omega)))) hO rfl (Or.inl (dq 70 s _ (by omega)))) hO rfl (Or.inl (dq 70 s _ (by omega))))) ⟨?_, ?_, ?_⟩ (fun _ => by simp) (Or.inr ⟨q, by omega, by rw [show k + 1 - 1 = k by omega]; exact hx, rfl⟩) hfe
            · simp only [haI, haL, n230_239, false_and, if_false]
              rw [w230, List.length_append]; rfl
            · rw [List.length_append]; exact l60
            · refine rdf_eq (fun j x hj => ?_)
              by_cases cj : j < sp0.length
              · rw [List.getElem?_append_left cj] at hj
                have hne : ¬ 70 * s + j = 70 * s + sp0.length := by omega
                have hold := wold j x hj
                unfold spv at hold ⊢
                simp only [haI, haL, n237_238, n237_239, n237_240, n237_241, n237_242, n237_243, n237_244, n238_237, n238_239, n238_240, n238_241, n238_242, n238_243, n238_244, n239_237, n239_238, n239_240, n239_241, n239_242, n239_243, n239_244, n240_237, n240_238, n240_239, n240_241, n240_242, n240_243, n240_244, n241_237, n241_238, n241_239, n241_240, n241_242, n241_243, n241_244, n242_237, n242_238, n242_239, n242_240, n242_241, n242_243, n242_244, n243_237, n243_238, n243_239, n243_240, n243_241, n243_242, n243_244, n244_237, n244_238, n244_239, n244_240, n244_241, n244_242, n244_243, false_and, if_false, true_and, hne]
                exact hold
              · rw [List.getElem?_append_right (by omega)] at hj
                by_cases cj2 : j = sp0.length
                · rw [cj2, Nat.sub_self] at hj
                  cases hj
                  subst cj2
                  unfold spv tkS
                  simp only [haI, haL, n237_238, n237_239, n237_240, n237_241, n237_242, n237_243, n237_244, n238_237, n238_239, n238_240, n238_241, n238_242, n238_243, n238_244, n239_237, n239_238, n239_240, n239_241, n239_242, n239_243, n239_244, n240_237, n240_238, n240_239, n240_241, n240_242, n240_243, n240_244, n241_237, n241_238, n241_239, n241_240, n241_242, n241_243, n241_244, n242_237, n242_238, n242_239, n242_240, n242_241, n242_243, n242_244, n243_237, n243_238, n243_239, n243_240, n243_241, n243_242, n243_244, n244_237, n244_238, n244_239, n244_240, n244_241, n244_242, n244_243, false_and, if_false, true_and, if_true]
                  rw [y1, y2, y7, hlo, hhi, mx_e q.2 y.2.2.2.2.2.1]
                · rw [List.getElem?_eq_none (by simp; omega)] at hj; cases hj
          by_cases d1 : q.2 < y.2.2.2.2.1 <;> by_cases d2 : y.2.2.2.2.2.1 < q.2
          · refine e_g2 hG [(177, [0, 1, 3, 5, 6])] 100 ?_
            simp only [e_wp_s, Option.getD_some, Option.isSome_some, Option.isSome_none, xis0, xis1, xis2, xis3, xis4, e_ks, lk_k, lk_c, List.lookup_nil, gt_c, vi_i, k1_n, k1_c, k2_n, k2_c, ar_n, ar_c, pk_n, pk_c, rm_0, rm_1, rm_2, rm_3, rm_4, rm_5, rc_9, rcs, fvs, rf_s, rf_n, isI_i, isL_l, isR_r, isR_n, isR_q, ct_i, ct_l, ct_r, ct_n, ct_q, tFs, tCs, tKs, tJs, tSs, e_nf, lgs, ↓reduceIte, true_and, and_true, false_and, and_false, or_true, true_or, false_or, or_false, Nat.reduceAdd, Nat.reduceEqDiff, Nat.reduceDiv, Nat.reduceLT, Nat.reduceLeDiff, Nat.zero_add, reduceCtorEq, Bool.false_eq_true, Option.toList_some, Option.toList_none, List.cons_append, List.nil_append, not_true_eq_false, not_false_eq_true, Nat.sub_zero, dsX7_thin_0, dsX7_thin_1, dsX7_thin_2, jsX7_thin, xcX7_thin, w0, rw234, kw234, lw234, rw239, kw239, lw239, rw240, kw240, lw240, rw241, kw241, lw241, rw242, kw242, lw242, rw244, kw244, lw244, n239_240, n239_241, n239_242, n239_244, n240_239, n240_241, n240_242, n240_244, n241_239, n241_240, n241_242, n241_244, n242_239, n242_240, n242_241, n242_244, n244_239, n244_240, n244_241, n244_242, n234_239, n234_240, n234_241, n234_242, n234_244, j1, j2, k1, k2, s2, y3, y4, y5, y6, d1, d2, nI_1, hmK, hmN, hmI, hmL, hmR, haI, haL, haR]
            exact key _ _ (by rw [if_pos d1]) (by rw [if_pos d2])
          · refine e_g2 hG [(177, [0, 1, 3, 5, 6])] 100 ?_
            simp only [e_wp_s, Option.getD_some, Option.isSome_some, Option.isSome_none, xis0, xis1, xis2, xis3, xis4, e_ks, lk_k, lk_c, List.lookup_nil, gt_c, vi_i, k1_n, k1_c, k2_n, k2_c, ar_n, ar_c, pk_n, pk_c, rm_0, rm_1, rm_2, rm_3, rm_4, rm_5, rc_9, rcs, fvs, rf_s, rf_n, isI_i, isL_l, isR_r, isR_n, isR_q, ct_i, ct_l, ct_r, ct_n, ct_q, tFs, tCs, tKs, tJs, tSs, e_nf, lgs, ↓reduceIte, true_and, and_true, false_and, and_false, or_true, true_or, false_or, or_false, Nat.reduceAdd, Nat.reduceEqDiff, Nat.reduceDiv, Nat.reduceLT, Nat.reduceLeDiff, Nat.zero_add, reduceCtorEq, Bool.false_eq_true, Option.toList_some, Option.toList_none, List.cons_append, List.nil_append, not_true_eq_false, not_false_eq_true, Nat.sub_zero, dsX7_thin_0, dsX7_thin_1, dsX7_thin_2, jsX7_thin, xcX7_thin, w0, rw234, kw234, lw234, rw239, kw239, lw239, rw240, kw240, lw240, rw241, kw241, lw241, rw242, kw242, lw242, rw244, kw244, lw244, n239_240, n239_241, n239_242, n239_244, n240_239, n240_241, n240_242, n240_244, n241_239, n241_240, n241_242, n241_244, n242_239, n242_240, n242_241, n242_244, n244_239, n244_240, n244_241, n244_242, n234_239, n234_240, n234_241, n234_242, n234_244, j1, j2, k1, k2, s2, y3, y4, y5, y6, d1, d2, nI_1, hmK, hmN, hmI, hmL, hmR, haI, haL, haR]
            exact key _ _ (by rw [if_pos d1]) (by rw [if_neg d2])
          · refine e_g2 hG [(177, [0, 1, 3, 5, 6])] 100 ?_
            simp only [e_wp_s, Option.getD_some, Option.isSome_some, Option.isSome_none, xis0, xis1, xis2, xis3, xis4, e_ks, lk_k, lk_c, List.lookup_nil, gt_c, vi_i, k1_n, k1_c, k2_n, k2_c, ar_n, ar_c, pk_n, pk_c, rm_0, rm_1, rm_2, rm_3, rm_4, rm_5, rc_9, rcs, fvs, rf_s, rf_n, isI_i, isL_l, isR_r, isR_n, isR_q, ct_i, ct_l, ct_r, ct_n, ct_q, tFs, tCs, tKs, tJs, tSs, e_nf, lgs, ↓reduceIte, true_and, and_true, false_and, and_false, or_true, true_or, false_or, or_false, Nat.reduceAdd, Nat.reduceEqDiff, Nat.reduceDiv, Nat.reduceLT, Nat.reduceLeDiff, Nat.zero_add, reduceCtorEq, Bool.false_eq_true, Option.toList_some, Option.toList_none, List.cons_append, List.nil_append, not_true_eq_false, not_false_eq_true, Nat.sub_zero, dsX7_thin_0, dsX7_thin_1, dsX7_thin_2, jsX7_thin, xcX7_thin, w0, rw234, kw234, lw234, rw239, kw239, lw239, rw240, kw240, lw240, rw241, kw241, lw241, rw242, kw242, lw242, rw244, kw244, lw244, n239_240, n239_241, n239_242, n239_244, n240_239, n240_241, n240_242, n240_244, n241_239, n241_240, n241_242, n241_244, n242_239, n242_240, n242_241, n242_244, n244_239, n244_240, n244_241, n244_242, n234_239, n234_240, n234_241, n234_242, n234_244, j1, j2, k1, k2, s2, y3, y4, y5, y6, d1, d2, nI_1, hmK, hmN, hmI, hmL, hmR, haI, haL, haR]
            exact key _ _ (by rw [if_neg d1]) (by rw [if_pos d2])
          · refine e_g2 hG [(177, [0, 1, 3, 5, 6])] 100 ?_
            simp only [e_wp_s, Option.getD_some, Option.isSome_some, Option.isSome_none, xis0, xis1, xis2, xis3, xis4, e_ks, lk_k, lk_c, List.lookup_nil, gt_c, vi_i, k1_n, k1_c, k2_n, k2_c, ar_n, ar_c, pk_n, pk_c, rm_0, rm_1, rm_2, rm_3, rm_4, rm_5, rc_9, rcs, fvs, rf_s, rf_n, isI_i, isL_l, isR_r, isR_n, isR_q, ct_i, ct_l, ct_r, ct_n, ct_q, tFs, tCs, tKs, tJs, tSs, e_nf, lgs, ↓reduceIte, true_and, and_true, false_and, and_false, or_true, true_or, false_or, or_false, Nat.reduceAdd, Nat.reduceEqDiff, Nat.reduceDiv, Nat.reduceLT, Nat.reduceLeDiff, Nat.zero_add, reduceCtorEq, Bool.false_eq_true, Option.toList_some, Option.toList_none, List.cons_append, List.nil_append, not_true_eq_false, not_false_eq_true, Nat.sub_zero, dsX7_thin_0, dsX7_thin_1, dsX7_thin_2, jsX7_thin, xcX7_thin, w0, rw234, kw234, lw234, rw239, kw239, lw239, rw240, kw240, lw240, rw241, kw241, lw241, rw242, kw242, lw242, rw244, kw244, lw244, n239_240, n239_241, n239_242, n239_244, n240_239, n240_241, n240_242, n240_244, n241_239, n241_240, n241_242, n241_244, n242_239, n242_240, n242_241, n242_244, n244_239, n244_240, n244_241, n244_242, n234_239, n234_240, n234_241, n234_242, n234_244, j1, j2, k1, k2, s2, y3, y4, y5, y6, d1, d2, nI_1, hmK, hmN, hmI, hmL, hmR, haI, haL, haR]
            exact key _ _ (by rw [if_neg d1]) (by rw [if_neg d2])
        -- a new span
        have newS : o ≠ some (q.1 / w) → G 274 [(0, .ref m), (1, .int (nI s)), (3, .int w), (5, .int (nI g)), (6, .int (nI k)), (7, .int (nI (320 * s + k))), (8, .int (nI (70 * s + spk.length)))] [] (tI V (A 230) s (nI (spk.length + 1))) 0 0 := by
          intro hf
          rw [if_neg hf] at hlen
          rw [show decide (o ≠ some (q.1 / w)) = true by simp [hf], mAd_y] at he
          have l60 : spk.length < 60 := by omega
          have hC1 : MC O A m FSp V (tI V (A 230) s (nI (spk.length + 1))) := MC.tI MC.rf hO (by decide) rfl
          have hI1 : MI A s V (tI V (A 230) s (nI (spk.length + 1))) := MI.tI (f := 230) MI.rf hO rfl (Or.inl (Nat.div_one s))
          have hM1 := hC1.ms hMV
          have k1 : (nI (70 * s + spk.length)).toNatClampNeg = 70 * s + spk.length := nI_clamp (by omega)
          have k2 : vp_in (nI (70 * s + spk.length)) 560 := vp_in_nI (by omega) (by decide)
          have w230 : aI (tI V (A 230) s (nI (spk.length + 1))) (A 230) s = nI (spk.length + 1) := by simp only [haI, and_self, if_true]
          have wold : ∀ i x, spk[i]? = some x → spv A (tI V (A 230) s (nI (spk.length + 1))) (70 * s + i) = x := fun i x hi => by
            have hold := (mSp_at hSk hi).1
            unfold spv at hold ⊢
            simp only [haI, haL, n230_237, n230_238, n230_239, n237_230, n237_238, n237_239, n238_230, n238_237, n238_239, n239_230, n239_237, n239_238, false_and, if_false]
            exact hold
          generalize tI V (A 230) s (nI (spk.length + 1)) = X at *
          have w0 := hM1.1
          obtain ⟨rw231, kw231, lw231⟩ : mR X 231 m = some (A 231) ∧ mK X (A 231) = 9 ∧ mN X (A 231) = 2560 := hM1.2 231 rfl
          obtain ⟨rw234, kw234, lw234⟩ : mR X 234 m = some (A 234) ∧ mK X (A 234) = 10 ∧ mN X (A 234) = 2560 := hM1.2 234 rfl
          obtain ⟨rw237, kw237, lw237⟩ : mR X 237 m = some (A 237) ∧ mK X (A 237) = 9 ∧ mN X (A 237) = 560 := hM1.2 237 rfl
          obtain ⟨rw238, kw238, lw238⟩ : mR X 238 m = some (A 238) ∧ mK X (A 238) = 9 ∧ mN X (A 238) = 560 := hM1.2 238 rfl
          obtain ⟨rw239, kw239, lw239⟩ : mR X 239 m = some (A 239) ∧ mK X (A 239) = 9 ∧ mN X (A 239) = 560 := hM1.2 239 rfl
          obtain ⟨rw240, kw240, lw240⟩ : mR X 240 m = some (A 240) ∧ mK X (A 240) = 10 ∧ mN X (A 240) = 560 := hM1.2 240 rfl
          obtain ⟨rw241, kw241, lw241⟩ : mR X 241 m = some (A 241) ∧ mK X (A 241) = 10 ∧ mN X (A 241) = 560 := hM1.2 241 rfl
          obtain ⟨rw242, kw242, lw242⟩ : mR X 242 m = some (A 242) ∧ mK X (A 242) = 10 ∧ mN X (A 242) = 560 := hM1.2 242 rfl
          obtain ⟨rw243, kw243, lw243⟩ : mR X 243 m = some (A 243) ∧ mK X (A 243) = 10 ∧ mN X (A 243) = 560 := hM1.2 243 rfl
          have hP1 := hC1.mP (s := s) (by decide) hPV
          obtain ⟨s1, s2, -, -⟩ := mP_at hP1 hx
          have n1 : ∀ f, f ∈ ([237, 238, 239] : List Nat) → ¬ A 231 = A f := fun f hf => hO.ne (f := 231) (g := f) rfl (by revert hf; revert f; decide) (by revert hf; revert f; decide)
          have n231_237 := n1 237 (by decide)
          have n231_238 := n1 238 (by decide)
          have n231_239 := n1 239 (by decide)
          have n4 : ∀ f, f ∈ ([240, 241, 242, 243] : List Nat) → ¬ A 234 = A f := fun f hf => hO.ne (f := 234) (g := f) rfl (by revert hf; revert f; decide) (by revert hf; revert f; decide)
          have n234_240 := n4 240 (by decide)
          have n234_241 := n4 241 (by decide)
          have n234_242 := n4 242 (by decide)
          have n234_243 := n4 243 (by decide)
          refine e_g2 hG [(366, [0, 1, 3, 5, 6, 7, 8])] 100 ?_
          simp only [e_wp_s, Option.getD_some, Option.isSome_some, Option.isSome_none, xis0, xis1, xis2, xis3, xis4, e_ks, lk_k, lk_c, List.lookup_nil, gt_c, vi_i, k1_n, k1_c, k2_n, k2_c, ar_n, ar_c, pk_n, pk_c, rm_0, rm_1, rm_2, rm_3, rm_4, rm_5, rc_9, rcs, fvs, rf_s, rf_n, isI_i, isL_l, isR_r, isR_n, isR_q, ct_i, ct_l, ct_r, ct_n, ct_q, tFs, tCs, tKs, tJs, tSs, e_nf, lgs, ↓reduceIte, true_and, and_true, false_and, and_false, or_true, true_or, false_or, or_false, Nat.reduceAdd, Nat.reduceEqDiff, Nat.reduceDiv, Nat.reduceLT, Nat.reduceLeDiff, Nat.zero_add, reduceCtorEq, Bool.false_eq_true, Option.toList_some, Option.toList_none, List.cons_append, List.nil_append, not_true_eq_false, not_false_eq_true, Nat.sub_zero, dsX7_thin_0, dsX7_thin_1, dsX7_thin_2, jsX7_thin, xcX7_thin, w0, rw231, kw231, lw231, rw234, kw234, lw234, rw237, kw237, lw237, rw238, kw238, lw238, rw239, kw239, lw239, rw240, kw240, lw240, rw241, kw241, lw241, rw242, kw242, lw242, rw243, kw243, lw243, n237_238, n237_239, n237_240, n237_241, n237_242, n237_243, n238_237, n238_239, n238_240, n238_241, n238_242, n238_243, n239_237, n239_238, n239_240, n239_241, n239_242, n239_243, n240_237, n240_238, n240_239, n240_241, n240_242, n240_243, n241_237, n241_238, n241_239, n241_240, n241_242, n241_243, n242_237, n242_238, n242_239, n242_240, n242_241, n242_243, n243_237, n243_238, n243_239, n243_240, n243_241, n243_242, n231_237, n231_238, n231_239, n234_240, n234_241, n234_242, n234_243, j1, j2, k1, k2, s1, s2, hw0, hmK, hmN, hmI, hmL, hmR, haI, haL, haR, and_self]
          refine tail _ spk (q.1 / w * w, q.1 / w * w + w, 0, 0, q.2, q.2, q.2, aL X (A 244) (70 * s + spk.length)) (MC.tL (MC.tL (MC.tL (MC.tL (MC.tI (MC.tI (MC.tI hC1 hO (by decide) rfl) hO (by decide) rfl) hO (by decide) rfl) hO (by decide) rfl) hO (by decide) rfl) hO (by decide) rfl) hO (by decide) rfl) (MI.tL (MI.tL (MI.tL (MI.tL (MI.tI (MI.tI (MI.tI hI1 hO rfl (Or.inl (dq 70 s _ (by omega)))) hO rfl (Or.inl (dq 70 s _ (by omega)))) hO rfl (Or.inl (dq 70 s _ (by omega)))) hO rfl (Or.inl (dq 70 s _ (by omega)))) hO rfl (Or.inl (dq 70 s _ (by omega)))) hO rfl (Or.inl (dq 70 s _ (by omega)))) hO rfl (Or.inl (dq 70 s _ (by omega)))) l60 ?_ (fun i x hi => ?_) ?_ ?_
          · simp only [haI, haL, n230_237, n230_238, n230_239, n237_230, n237_238, n237_239, n238_230, n238_237, n238_239, n239_230, n239_237, n239_238, false_and, if_false]; exact w230
          · have hil := (List.getElem?_eq_some_iff.mp hi).1
            have hne : ¬ 70 * s + i = 70 * s + spk.length := by omega
            have hold := wold i x hi
            unfold spv at hold ⊢
            simp only [haI, haL, n237_238, n237_239, n237_240, n237_241, n237_242, n237_243, n237_244, n238_237, n238_239, n238_240, n238_241, n238_242, n238_243, n238_244, n239_237, n239_238, n239_240, n239_241, n239_242, n239_243, n239_244, n240_237, n240_238, n240_239, n240_241, n240_242, n240_243, n240_244, n241_237, n241_238, n241_239, n241_240, n241_242, n241_243, n241_244, n242_237, n242_238, n242_239, n242_240, n242_241, n242_243, n242_244, n243_237, n243_238, n243_239, n243_240, n243_241, n243_242, n243_244, n244_237, n244_238, n244_239, n244_240, n244_241, n244_242, n244_243, false_and, if_false, true_and, hne]
            exact hold
          · unfold spv
            simp only [haI, haL, n237_238, n237_239, n237_240, n237_241, n237_242, n237_243, n237_244, n238_237, n238_239, n238_240, n238_241, n238_242, n238_243, n238_244, n239_237, n239_238, n239_240, n239_241, n239_242, n239_243, n239_244, n240_237, n240_238, n240_239, n240_241, n240_242, n240_243, n240_244, n241_237, n241_238, n241_239, n241_240, n241_242, n241_243, n241_244, n242_237, n242_238, n242_239, n242_240, n242_241, n242_243, n242_244, n243_237, n243_238, n243_239, n243_240, n243_241, n243_242, n243_244, n244_237, n244_238, n244_239, n244_240, n244_241, n244_242, n244_243, false_and, if_false, true_and, if_true]
          · rw [show tkS (q.1 / w * w, q.1 / w * w + w, 0, 0, q.2, q.2, q.2, aL X (A 244) (70 * s + spk.length)) q.2 = nwS w q by
              unfold tkS nwS
              simp only [ite_self, Int32.zero_add, Int64.zero_add]]
            exact he
        have i8 : nI (70 * s + (spk.length + 1)) - 1 = nI (70 * s + spk.length) := nI_pred (70 * s + spk.length)
        rcases hpv with ⟨hk0, ho0⟩ | ⟨p, hkp, hp, hop⟩
        · have z0 : (nI k = 0) = True := eq_true (by rw [hk0]; rfl)
          have hn := newS (by rw [ho0]; simp)
          refine e_g2 hG [(274, [0, 1, 3, 5, 6, 7, 8])] 100 ?_
          simp only [e_wp_s, Option.getD_some, Option.isSome_some, Option.isSome_none, xis0, xis1, xis2, xis3, xis4, e_ks, lk_k, lk_c, List.lookup_nil, gt_c, vi_i, k1_n, k1_c, k2_n, k2_c, ar_n, ar_c, pk_n, pk_c, rm_0, rm_1, rm_2, rm_3, rm_4, rm_5, rc_9, rcs, fvs, rf_s, rf_n, isI_i, isL_l, isR_r, isR_n, isR_q, ct_i, ct_l, ct_r, ct_n, ct_q, tFs, tCs, tKs, tJs, tSs, e_nf, lgs, ↓reduceIte, true_and, and_true, false_and, and_false, or_true, true_or, false_or, or_false, Nat.reduceAdd, Nat.reduceEqDiff, Nat.reduceDiv, Nat.reduceLT, Nat.reduceLeDiff, Nat.zero_add, reduceCtorEq, Bool.false_eq_true, Option.toList_some, Option.toList_none, List.cons_append, List.nil_append, not_true_eq_false, not_false_eq_true, Nat.sub_zero, dsX7_thin_0, dsX7_thin_1, dsX7_thin_2, jsX7_thin, xcX7_thin, y0, rv230, kv230, lv230, rv231, kv231, lv231, sc, sv, kl, e1, z0, l70, i8, nI_1, hmK, hmN, hmI, hmL, hmR, haI, haL, haR, and_self, ↓sp_X7_spot, spt]
          exact hn
        · have z0 : ¬ nI k = 0 := nI_ne0 hkp (by omega)
          obtain ⟨u1, u2, u3, u4⟩ := mP_at hPV hp
          have i7 : nI (320 * s + k) - 1 = nI (320 * s + (k - 1)) := by rw [show 320 * s + k = (320 * s + (k - 1)) + 1 by omega]; exact nI_pred (320 * s + (k - 1))
          have j3 : (nI (320 * s + (k - 1))).toNatClampNeg = 320 * s + (k - 1) := nI_clamp (by omega)
          have j4 : vp_in (nI (320 * s + (k - 1))) 2560 := vp_in_nI (by omega) (by decide)
          by_cases cc : q.1 / w = p.1 / w
          · rcases nil_snoc spk with hn | ⟨sp0, x, rfl⟩
            · exact absurd hn (ho (by rw [hop]; simp))
            · have kl2 : aI V (A 230) s = nI (sp0.length + 1) := by rw [kl, List.length_append]; rfl
              have i9 : nI (70 * s + (sp0.length + 1)) - 1 = nI (70 * s + sp0.length) := nI_pred (70 * s + sp0.length)
              rw [show decide (o ≠ some (q.1 / w)) = false by rw [hop, cc]; simp, mAd_n] at he
              rw [List.length_append] at k60
              simp only [List.length_cons, List.length_nil] at k60
              refine e_g2 hG [(366, [0, 1, 3, 5, 6, 7, 8])] 100 ?_
              simp only [e_wp_s, Option.getD_some, Option.isSome_some, Option.isSome_none, xis0, xis1, xis2, xis3, xis4, e_ks, lk_k, lk_c, List.lookup_nil, gt_c, vi_i, k1_n, k1_c, k2_n, k2_c, ar_n, ar_c, pk_n, pk_c, rm_0, rm_1, rm_2, rm_3, rm_4, rm_5, rc_9, rcs, fvs, rf_s, rf_n, isI_i, isL_l, isR_r, isR_n, isR_q, ct_i, ct_l, ct_r, ct_n, ct_q, tFs, tCs, tKs, tJs, tSs, e_nf, lgs, ↓reduceIte, true_and, and_true, false_and, and_false, or_true, true_or, false_or, or_false, Nat.reduceAdd, Nat.reduceEqDiff, Nat.reduceDiv, Nat.reduceLT, Nat.reduceLeDiff, Nat.zero_add, reduceCtorEq, Bool.false_eq_true, Option.toList_some, Option.toList_none, List.cons_append, List.nil_append, not_true_eq_false, not_false_eq_true, Nat.sub_zero, dsX7_thin_0, dsX7_thin_1, dsX7_thin_2, jsX7_thin, xcX7_thin, y0, rv230, kv230, lv230, rv231, kv231, lv231, sc, sv, kl2, e1, z0, l70, i7, i9, j1, j2, j3, j4, r1, u1, cc, hw0, ↓sp_X7_spot, spt]
              refine tail V sp0 x MC.rf MI.rf (by omega) kl2 (fun i y hi => ?_) ?_ he
              · have hil := (List.getElem?_eq_some_iff.mp hi).1
                exact (mSp_at hSk (by rw [List.getElem?_append_left hil]; exact hi)).1
              · exact (mSp_at hSk (by simp)).1
          · have hn := newS (by rw [hop]; exact fun z => cc (Option.some.inj z).symm)
            have n231_230 : ¬ A 231 = A 230 := hO.ne (f := 231) (g := 230) rfl rfl (by decide)
            refine e_g2 hG [(274, [0, 1, 3, 5, 6, 7, 8])] 100 ?_
            simp only [e_wp_s, Option.getD_some, Option.isSome_some, Option.isSome_none, xis0, xis1, xis2, xis3, xis4, e_ks, lk_k, lk_c, List.lookup_nil, gt_c, vi_i, k1_n, k1_c, k2_n, k2_c, ar_n, ar_c, pk_n, pk_c, rm_0, rm_1, rm_2, rm_3, rm_4, rm_5, rc_9, rcs, fvs, rf_s, rf_n, isI_i, isL_l, isR_r, isR_n, isR_q, ct_i, ct_l, ct_r, ct_n, ct_q, tFs, tCs, tKs, tJs, tSs, e_nf, lgs, ↓reduceIte, true_and, and_true, false_and, and_false, or_true, true_or, false_or, or_false, Nat.reduceAdd, Nat.reduceEqDiff, Nat.reduceDiv, Nat.reduceLT, Nat.reduceLeDiff, Nat.zero_add, reduceCtorEq, Bool.false_eq_true, Option.toList_some, Option.toList_none, List.cons_append, List.nil_append, not_true_eq_false, not_false_eq_true, Nat.sub_zero, dsX7_thin_0, dsX7_thin_1, dsX7_thin_2, jsX7_thin, xcX7_thin, y0, rv230, kv230, lv230, rv231, kv231, lv231, sc, sv, kl, e1, z0, l70, i7, i8, j1, j2, j3, j4, r1, u1, cc, hw0, n231_230, nI_1, hmK, hmN, hmI, hmL, hmR, haI, haL, haR, and_self, ↓sp_X7_spot, spt]
            exact hn
    -- enough room
    have full : ∀ c, c = sp.length + mTn w none (pts.take g) → G 164 [(0, .ref m), (1, .int (nI s)), (3, .int w), (4, .int (nI c)), (5, .int (nI g))] [] M 0 0 := by
      intro c hc
      have hb : mTn w none (pts.take g) ≤ 400 := by
        have hb : ∀ (l : List PT) (o : Option Int32), mTn w o l ≤ l.length := by
          intro l
          induction l with
          | nil => intro o; exact Nat.le_refl _
          | cons p l ih => intro o; rw [mTn, List.length_cons]; have := ih (some (p.1 / w)); split <;> omega
        have h1 := hb (pts.take g) none
        rw [List.length_take] at h1
        omega
      by_cases c10 : 60 < c
      · have e1 : (60 : Int32) < nI c := nI_lt (a := 60) c10 (by omega)
        rw [if_pos (by omega)] at hq
        refine e_g2 hG [] 60 ?_
        simp only [e_wp_s, Option.getD_some, Option.isSome_some, Option.isSome_none, xis0, xis1, xis2, xis3, xis4, e_ks, lk_k, lk_c, List.lookup_nil, gt_c, vi_i, k1_n, k1_c, k2_n, k2_c, ar_n, ar_c, pk_n, pk_c, rm_0, rm_1, rm_2, rm_3, rm_4, rm_5, rc_9, rcs, fvs, rf_s, rf_n, isI_i, isL_l, isR_r, isR_n, isR_q, ct_i, ct_l, ct_r, ct_n, ct_q, tFs, tCs, tKs, tJs, tSs, e_nf, lgs, ↓reduceIte, true_and, and_true, false_and, and_false, or_true, true_or, false_or, or_false, Nat.reduceAdd, Nat.reduceEqDiff, Nat.reduceDiv, Nat.reduceLT, Nat.reduceLeDiff, Nat.zero_add, reduceCtorEq, Bool.false_eq_true, Option.toList_some, Option.toList_none, List.cons_append, List.nil_append, not_true_eq_false, not_false_eq_true, Nat.sub_zero, dsX7_thin_0, dsX7_thin_1, dsX7_thin_2, jsX7_thin, xcX7_thin, e1]
        exact hq M hR Fr.rf
      · have e1 : ¬ (60 : Int32) < nI c := nI_nlt (a := 60) (by omega) (by decide)
        refine e_g2 hG [(177, [0, 1, 3, 5, 6])] 60 ?_
        simp only [e_wp_s, Option.getD_some, Option.isSome_some, Option.isSome_none, xis0, xis1, xis2, xis3, xis4, e_ks, lk_k, lk_c, List.lookup_nil, gt_c, vi_i, k1_n, k1_c, k2_n, k2_c, ar_n, ar_c, pk_n, pk_c, rm_0, rm_1, rm_2, rm_3, rm_4, rm_5, rc_9, rcs, fvs, rf_s, rf_n, isI_i, isL_l, isR_r, isR_n, isR_q, ct_i, ct_l, ct_r, ct_n, ct_q, tFs, tCs, tKs, tJs, tSs, e_nf, lgs, ↓reduceIte, true_and, and_true, false_and, and_false, or_true, true_or, false_or, or_false, Nat.reduceAdd, Nat.reduceEqDiff, Nat.reduceDiv, Nat.reduceLT, Nat.reduceLeDiff, Nat.zero_add, reduceCtorEq, Bool.false_eq_true, Option.toList_some, Option.toList_none, List.cons_append, List.nil_append, not_true_eq_false, not_false_eq_true, Nat.sub_zero, dsX7_thin_0, dsX7_thin_1, dsX7_thin_2, jsX7_thin, xcX7_thin, e1]
        exact grow (by omega) g 0 M none sp (by omega) MC.rf MI.rf hSp (fun h => absurd rfl h) (Or.inl ⟨rfl, rfl⟩) hfin
    have cntl : ∀ d k c o, k + d = pts.length → k + lbl t (pts.drop k) = g → ((k = 0 ∧ o = none) ∨ ∃ p, 0 < k ∧ pts[k - 1]? = some p ∧ o = some (p.1 / w)) → c + mTn w o ((pts.take g).drop k) = sp.length + mTn w none (pts.take g) → G 90 [(0, .ref m), (1, .int (nI s)), (2, .int t), (3, .int w), (4, .int (nI c)), (5, .int (nI k))] [] M 0 0 := by
      intro d
      induction d with
      | zero =>
        intro k c o hk hl hpv he
        have e1 : ¬ nI k < nI pts.length := nI_nlt (by omega) (by omega)
        rw [List.drop_eq_nil_of_le (show pts.length ≤ k by omega), lbl] at hl
        rw [List.drop_eq_nil_of_le (by rw [List.length_take]; omega), mTn, Nat.add_zero] at he
        have hf := full c he
        rw [← show k = g by omega] at hf
        refine e_g2 hG [(164, [0, 1, 3, 4, 5])] 60 ?_
        simp only [e_wp_s, Option.getD_some, Option.isSome_some, Option.isSome_none, xis0, xis1, xis2, xis3, xis4, e_ks, lk_k, lk_c, List.lookup_nil, gt_c, vi_i, k1_n, k1_c, k2_n, k2_c, ar_n, ar_c, pk_n, pk_c, rm_0, rm_1, rm_2, rm_3, rm_4, rm_5, rc_9, rcs, fvs, rf_s, rf_n, isI_i, isL_l, isR_r, isR_n, isR_q, ct_i, ct_l, ct_r, ct_n, ct_q, tFs, tCs, tKs, tJs, tSs, e_nf, lgs, ↓reduceIte, true_and, and_true, false_and, and_false, or_true, true_or, false_or, or_false, Nat.reduceAdd, Nat.reduceEqDiff, Nat.reduceDiv, Nat.reduceLT, Nat.reduceLeDiff, Nat.zero_add, reduceCtorEq, Bool.false_eq_true, Option.toList_some, Option.toList_none, List.cons_append, List.nil_append, not_true_eq_false, not_false_eq_true, Nat.sub_zero, dsX7_thin_0, dsX7_thin_1, dsX7_thin_2, jsX7_thin, xcX7_thin, h0, r227, k227, l227, sc, sv, pl, e1]
        exact hf
      | succ d ih =>
        intro k c o hk hl hpv he
        have e1 : nI k < nI pts.length := nI_lt (by omega) (by omega)
        obtain ⟨q, hx⟩ : ∃ q, pts[k]? = some q := ⟨_, List.getElem?_eq_getElem (by omega)⟩
        obtain ⟨r1, r2, r3, r4⟩ := mP_at hP hx
        have j1 : (nI (320 * s + k)).toNatClampNeg = 320 * s + k := nI_clamp (by omega)
        have j2 : vp_in (nI (320 * s + k)) 2560 := vp_in_nI (by omega) (by decide)
        rw [drop_at hx, lbl] at hl
        by_cases ct : q.1 < t
        · rw [if_pos ct] at hl
          have hx2 : (pts.take g)[k]? = some q := by rw [List.getElem?_take, if_pos (by omega)]; exact hx
          rw [drop_at hx2, mTn] at he
          rcases hpv with ⟨hk0, ho0⟩ | ⟨p, hkp, hp, hop⟩
          · have z0 : (nI k = 0) = True := eq_true (by rw [hk0]; rfl)
            rw [if_neg (by rw [ho0]; simp)] at he
            refine e_g2 hG [(90, [0, 1, 2, 3, 4, 5])] 60 ?_
            simp only [e_wp_s, Option.getD_some, Option.isSome_some, Option.isSome_none, xis0, xis1, xis2, xis3, xis4, e_ks, lk_k, lk_c, List.lookup_nil, gt_c, vi_i, k1_n, k1_c, k2_n, k2_c, ar_n, ar_c, pk_n, pk_c, rm_0, rm_1, rm_2, rm_3, rm_4, rm_5, rc_9, rcs, fvs, rf_s, rf_n, isI_i, isL_l, isR_r, isR_n, isR_q, ct_i, ct_l, ct_r, ct_n, ct_q, tFs, tCs, tKs, tJs, tSs, e_nf, lgs, ↓reduceIte, true_and, and_true, false_and, and_false, or_true, true_or, false_or, or_false, Nat.reduceAdd, Nat.reduceEqDiff, Nat.reduceDiv, Nat.reduceLT, Nat.reduceLeDiff, Nat.zero_add, reduceCtorEq, Bool.false_eq_true, Option.toList_some, Option.toList_none, List.cons_append, List.nil_append, not_true_eq_false, not_false_eq_true, Nat.sub_zero, dsX7_thin_0, dsX7_thin_1, dsX7_thin_2, jsX7_thin, xcX7_thin, h0, r227, k227, l227, r231, k231, l231, sc, sv, pl, e1, j1, j2, r1, ct, z0, nI_1, ↓sp_X7_spot, spt]
            exact ih (k + 1) (c + 1) (some (q.1 / w)) (by omega) (by omega) (Or.inr ⟨q, by omega, by rw [show k + 1 - 1 = k by omega]; exact hx, rfl⟩) (by omega)
          · have z0 : ¬ nI k = 0 := nI_ne0 hkp (by omega)
            obtain ⟨u1, u2, u3, u4⟩ := mP_at hP hp
            have i3 : nI k - 1 = nI (k - 1) := by rw [show k = (k - 1) + 1 by omega, nI_pred]; rfl
            have j3 : (nI (320 * s + (k - 1))).toNatClampNeg = 320 * s + (k - 1) := nI_clamp (by omega)
            have j4 : vp_in (nI (320 * s + (k - 1))) 2560 := vp_in_nI (by omega) (by decide)
            by_cases cc : q.1 / w = p.1 / w
            · rw [if_pos (by rw [hop, cc])] at he
              refine e_g2 hG [(90, [0, 1, 2, 3, 4, 5])] 60 ?_
              simp only [e_wp_s, Option.getD_some, Option.isSome_some, Option.isSome_none, xis0, xis1, xis2, xis3, xis4, e_ks, lk_k, lk_c, List.lookup_nil, gt_c, vi_i, k1_n, k1_c, k2_n, k2_c, ar_n, ar_c, pk_n, pk_c, rm_0, rm_1, rm_2, rm_3, rm_4, rm_5, rc_9, rcs, fvs, rf_s, rf_n, isI_i, isL_l, isR_r, isR_n, isR_q, ct_i, ct_l, ct_r, ct_n, ct_q, tFs, tCs, tKs, tJs, tSs, e_nf, lgs, ↓reduceIte, true_and, and_true, false_and, and_false, or_true, true_or, false_or, or_false, Nat.reduceAdd, Nat.reduceEqDiff, Nat.reduceDiv, Nat.reduceLT, Nat.reduceLeDiff, Nat.zero_add, reduceCtorEq, Bool.false_eq_true, Option.toList_some, Option.toList_none, List.cons_append, List.nil_append, not_true_eq_false, not_false_eq_true, Nat.sub_zero, dsX7_thin_0, dsX7_thin_1, dsX7_thin_2, jsX7_thin, xcX7_thin, h0, r227, k227, l227, r231, k231, l231, sc, sv, pl, e1, i3, j1, j2, j3, j4, r1, u1, ct, cc, hw0, z0, nI_1, ↓sp_X7_spot, spt]
              exact ih (k + 1) c (some (q.1 / w)) (by omega) (by omega) (Or.inr ⟨q, by omega, by rw [show k + 1 - 1 = k by omega]; exact hx, rfl⟩) (by omega)
            · rw [if_neg (by rw [hop]; exact fun z => cc (Option.some.inj z).symm)] at he
              refine e_g2 hG [(90, [0, 1, 2, 3, 4, 5])] 60 ?_
              simp only [e_wp_s, Option.getD_some, Option.isSome_some, Option.isSome_none, xis0, xis1, xis2, xis3, xis4, e_ks, lk_k, lk_c, List.lookup_nil, gt_c, vi_i, k1_n, k1_c, k2_n, k2_c, ar_n, ar_c, pk_n, pk_c, rm_0, rm_1, rm_2, rm_3, rm_4, rm_5, rc_9, rcs, fvs, rf_s, rf_n, isI_i, isL_l, isR_r, isR_n, isR_q, ct_i, ct_l, ct_r, ct_n, ct_q, tFs, tCs, tKs, tJs, tSs, e_nf, lgs, ↓reduceIte, true_and, and_true, false_and, and_false, or_true, true_or, false_or, or_false, Nat.reduceAdd, Nat.reduceEqDiff, Nat.reduceDiv, Nat.reduceLT, Nat.reduceLeDiff, Nat.zero_add, reduceCtorEq, Bool.false_eq_true, Option.toList_some, Option.toList_none, List.cons_append, List.nil_append, not_true_eq_false, not_false_eq_true, Nat.sub_zero, dsX7_thin_0, dsX7_thin_1, dsX7_thin_2, jsX7_thin, xcX7_thin, h0, r227, k227, l227, r231, k231, l231, sc, sv, pl, e1, i3, j1, j2, j3, j4, r1, u1, ct, cc, hw0, z0, nI_1, ↓sp_X7_spot, spt]
              exact ih (k + 1) (c + 1) (some (q.1 / w)) (by omega) (by omega) (Or.inr ⟨q, by omega, by rw [show k + 1 - 1 = k by omega]; exact hx, rfl⟩) (by omega)
        · rw [if_neg ct] at hl
          rw [List.drop_eq_nil_of_le (by rw [List.length_take]; omega), mTn, Nat.add_zero] at he
          have hf := full c he
          rw [← show k = g by omega] at hf
          refine e_g2 hG [(164, [0, 1, 3, 4, 5])] 60 ?_
          simp only [e_wp_s, Option.getD_some, Option.isSome_some, Option.isSome_none, xis0, xis1, xis2, xis3, xis4, e_ks, lk_k, lk_c, List.lookup_nil, gt_c, vi_i, k1_n, k1_c, k2_n, k2_c, ar_n, ar_c, pk_n, pk_c, rm_0, rm_1, rm_2, rm_3, rm_4, rm_5, rc_9, rcs, fvs, rf_s, rf_n, isI_i, isL_l, isR_r, isR_n, isR_q, ct_i, ct_l, ct_r, ct_n, ct_q, tFs, tCs, tKs, tJs, tSs, e_nf, lgs, ↓reduceIte, true_and, and_true, false_and, and_false, or_true, true_or, false_or, or_false, Nat.reduceAdd, Nat.reduceEqDiff, Nat.reduceDiv, Nat.reduceLT, Nat.reduceLeDiff, Nat.zero_add, reduceCtorEq, Bool.false_eq_true, Option.toList_some, Option.toList_none, List.cons_append, List.nil_append, not_true_eq_false, not_false_eq_true, Nat.sub_zero, dsX7_thin_0, dsX7_thin_1, dsX7_thin_2, jsX7_thin, xcX7_thin, h0, r227, k227, l227, r231, k231, l231, sc, sv, pl, e1, j1, j2, r1, ct, nI_1, ↓sp_X7_spot, spt]
          exact hf
    refine e_g2 hG [(90, [0, 1, 2, 3, 4, 5])] 60 ?_
    simp only [e_wp_s, Option.getD_some, Option.isSome_some, Option.isSome_none, xis0, xis1, xis2, xis3, xis4, e_ks, lk_k, lk_c, List.lookup_nil, gt_c, vi_i, k1_n, k1_c, k2_n, k2_c, ar_n, ar_c, pk_n, pk_c, rm_0, rm_1, rm_2, rm_3, rm_4, rm_5, rc_9, rcs, fvs, rf_s, rf_n, isI_i, isL_l, isR_r, isR_n, isR_q, ct_i, ct_l, ct_r, ct_n, ct_q, tFs, tCs, tKs, tJs, tSs, e_nf, lgs, ↓reduceIte, true_and, and_true, false_and, and_false, or_true, true_or, false_or, or_false, Nat.reduceAdd, Nat.reduceEqDiff, Nat.reduceDiv, Nat.reduceLT, Nat.reduceLeDiff, Nat.zero_add, reduceCtorEq, Bool.false_eq_true, Option.toList_some, Option.toList_none, List.cons_append, List.nil_append, not_true_eq_false, not_false_eq_true, Nat.sub_zero, dsX7_thin_0, dsX7_thin_1, dsX7_thin_2, jsX7_thin, xcX7_thin, h0, r230, k230, l230, sc, sv, sl, e9]
    exact cntl pts.length 0 sp.length none (by omega) (by rw [Nat.zero_add]; exact hgg) (Or.inl ⟨rfl, rfl⟩) rfl
