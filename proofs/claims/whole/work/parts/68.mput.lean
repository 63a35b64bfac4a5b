/-! the reference: series, label, match, put, fill -/
theorem lt_of_i64 (x : Int32) : (x.toInt64 < 0) = (x < 0) ∧ ((1000000000 : Int64) < x.toInt64) = (1000000000 < x) := ⟨l_lt x 0, l_lt 1000000000 x⟩
theorem i64_i32 (x : Int32) : x.toInt64.toInt32 = x := by
  apply Int32.toInt_inj.mp
  have := Int32.toInt_toInt64 x
  rw [Int64.toInt_toInt32, this]
  have h1 := Int32.le_toInt x
  have h2 := Int32.toInt_lt x
  rw [Int.bmod_eq_of_le] <;> omega
theorem isV01 (kd : Int32) (v : Int64) : isVd kd v = 0 ∨ isVd kd v = 1 := by
  unfold isVd
  split <;> split <;> simp
def csX7_placed : CS := (cs_c 0 171 3 7 sp_X7_isValue (cs_c 0 175 2 7 sp_X7_lastEnd (cs_c 0 111 3 7 sp_X7_spot (cs_c 0 122 3 7 sp_X7_isTorn (cs_c 0 126 5 7 sp_X7_addMain (cs_c 0 166 3 7 sp_X7_lateAt (cs_c 0 179 3 7 sp_X7_isLate cs_0)))))))
theorem csoX7_placed : ∀ op x na cl sp, csX7_placed op x = some (na, cl, sp) → CallOK 7 3 71 op x na cl sp := (cs_c_ok (caX7_placed_171 okX7_isValue) (cs_c_ok (caX7_placed_175 okX7_lastEnd) (cs_c_ok (caX7_placed_111 okX7_spot) (cs_c_ok (caX7_placed_122 okX7_isTorn) (cs_c_ok (caX7_placed_126 okX7_addMain) (cs_c_ok (caX7_placed_166 okX7_lateAt) (cs_c_ok (caX7_placed_179 okX7_isLate) cs_0_ok)))))))
theorem xcX7_placed : (∀ (Q : QT) (G : GT) (pc : Nat) (L : LV) (a0 a1 a2 : Value) (r : List Value) (M : HM) (k n : Nat), ex_i 7 9 1 false csX7_placed Q G (.invokevirtual 171) pc L (a2 :: a1 :: a0 :: r) M k n = (e_rm r ∧ e_rc M 7 [a0, a1, a2] ∧ sp_X7_isValue [a0, a1, a2] M k n (fun v M' k' n' => G (pc + 3) L (v.toList ++ r) M' k' n'))) ∧ (∀ (Q : QT) (G : GT) (pc : Nat) (L : LV) (a0 a1 : Value) (r : List Value) (M : HM) (k n : Nat), ex_i 7 9 1 false csX7_placed Q G (.invokevirtual 175) pc L (a1 :: a0 :: r) M k n = (e_rm r ∧ e_rc M 7 [a0, a1] ∧ sp_X7_lastEnd [a0, a1] M k n (fun v M' k' n' => G (pc + 3) L (v.toList ++ r) M' k' n'))) ∧ (∀ (Q : QT) (G : GT) (pc : Nat) (L : LV) (a0 a1 a2 : Value) (r : List Value) (M : HM) (k n : Nat), ex_i 7 9 1 false csX7_placed Q G (.invokevirtual 111) pc L (a2 :: a1 :: a0 :: r) M k n = (e_rm r ∧ e_rc M 7 [a0, a1, a2] ∧ sp_X7_spot [a0, a1, a2] M k n (fun v M' k' n' => G (pc + 3) L (v.toList ++ r) M' k' n'))) ∧ (∀ (Q : QT) (G : GT) (pc : Nat) (L : LV) (a0 a1 a2 : Value) (r : List Value) (M : HM) (k n : Nat), ex_i 7 9 1 false csX7_placed Q G (.invokevirtual 122) pc L (a2 :: a1 :: a0 :: r) M k n = (e_rm r ∧ e_rc M 7 [a0, a1, a2] ∧ sp_X7_isTorn [a0, a1, a2] M k n (fun v M' k' n' => G (pc + 3) L (v.toList ++ r) M' k' n'))) ∧ (∀ (Q : QT) (G : GT) (pc : Nat) (L : LV) (a0 a1 a2 a3 a4 : Value) (r : List Value) (M : HM) (k n : Nat), ex_i 7 9 1 false csX7_placed Q G (.invokevirtual 126) pc L (a4 :: a3 :: a2 :: a1 :: a0 :: r) M k n = (e_rm r ∧ e_rc M 7 [a0, a1, a2, a3, a4] ∧ sp_X7_addMain [a0, a1, a2, a3, a4] M k n (fun v M' k' n' => G (pc + 3) L (v.toList ++ r) M' k' n'))) ∧ (∀ (Q : QT) (G : GT) (pc : Nat) (L : LV) (a0 a1 a2 : Value) (r : List Value) (M : HM) (k n : Nat), ex_i 7 9 1 false csX7_placed Q G (.invokevirtual 166) pc L (a2 :: a1 :: a0 :: r) M k n = (e_rm r ∧ e_rc M 7 [a0, a1, a2] ∧ sp_X7_lateAt [a0, a1, a2] M k n (fun v M' k' n' => G (pc + 3) L (v.toList ++ r) M' k' n'))) ∧ (∀ (Q : QT) (G : GT) (pc : Nat) (L : LV) (a0 a1 a2 : Value) (r : List Value) (M : HM) (k n : Nat), ex_i 7 9 1 false csX7_placed Q G (.invokevirtual 179) pc L (a2 :: a1 :: a0 :: r) M k n = (e_rm r ∧ e_rc M 7 [a0, a1, a2] ∧ sp_X7_isLate [a0, a1, a2] M k n (fun v M' k' n' => G (pc + 3) L (v.toList ++ r) M' k' n'))) := ⟨(fun _ _ _ _ _ _ _ _ _ _ _ => xv0_3 rfl), (fun _ _ _ _ _ _ _ _ _ _ => xv0_2 rfl), (fun _ _ _ _ _ _ _ _ _ _ _ => xv0_3 rfl), (fun _ _ _ _ _ _ _ _ _ _ _ => xv0_3 rfl), (fun _ _ _ _ _ _ _ _ _ _ _ _ _ => xv0_5 rfl), (fun _ _ _ _ _ _ _ _ _ _ _ => xv0_3 rfl), (fun _ _ _ _ _ _ _ _ _ _ _ => xv0_3 rfl)⟩
def sp_X7_placed : SP := fun as M k n Q => match as with
  | [.ref m, .int i, .long t, .long v] => ∃ O A s S x, MS A M m ∧ GO O A m ∧ s < 8 ∧ MSer A M s S ∧ i = nI s ∧ t = Int32.toInt64 x ∧ ∀ U, MC O A m [227, 228, 229, 231, 232, 233, 234, 235, 236] M U → MI A s M U → MSer A U s (setBL S (plc S.1 S.2.2.1 S.2.2.2.1 S.2.2.2.2 (x, v)).2) → Q (some (.int (plc S.1 S.2.2.1 S.2.2.2.1 S.2.2.2.2 (x, v)).1)) U k n
  | _ => False
set_option maxHeartbeats 400000 in
theorem okX7_placed : OkX7_placed sp_X7_placed := by
  refine inX7_placed csoX7_placed ?_
  intro as M k n Q hsp
  unfold sp_X7_placed at hsp
  split at hsp
  rotate_left
  · exact hsp.elim
  rename_i m i t v
  obtain ⟨O, A, s, S, x, hM, hO, hs, hS, rfl, rfl, hq⟩ := hsp
  obtain ⟨hH, hP, hB, hT, hSp⟩ := id hS
  have n227_228 : ¬ A 227 = A 228 := hO.ne (f := 227) (g := 228) rfl rfl (by decide)
  have n227_229 : ¬ A 227 = A 229 := hO.ne (f := 227) (g := 229) rfl rfl (by decide)
  have n227_231 : ¬ A 227 = A 231 := hO.ne (f := 227) (g := 231) rfl rfl (by decide)
  have n227_232 : ¬ A 227 = A 232 := hO.ne (f := 227) (g := 232) rfl rfl (by decide)
  have n227_233 : ¬ A 227 = A 233 := hO.ne (f := 227) (g := 233) rfl rfl (by decide)
  have n227_234 : ¬ A 227 = A 234 := hO.ne (f := 227) (g := 234) rfl rfl (by decide)
  have n227_235 : ¬ A 227 = A 235 := hO.ne (f := 227) (g := 235) rfl rfl (by decide)
  have n227_236 : ¬ A 227 = A 236 := hO.ne (f := 227) (g := 236) rfl rfl (by decide)
  have n228_227 : ¬ A 228 = A 227 := hO.ne (f := 228) (g := 227) rfl rfl (by decide)
  have n228_229 : ¬ A 228 = A 229 := hO.ne (f := 228) (g := 229) rfl rfl (by decide)
  have n228_231 : ¬ A 228 = A 231 := hO.ne (f := 228) (g := 231) rfl rfl (by decide)
  have n228_232 : ¬ A 228 = A 232 := hO.ne (f := 228) (g := 232) rfl rfl (by decide)
  have n228_233 : ¬ A 228 = A 233 := hO.ne (f := 228) (g := 233) rfl rfl (by decide)
  have n228_234 : ¬ A 228 = A 234 := hO.ne (f := 228) (g := 234) rfl rfl (by decide)
  have n228_235 : ¬ A 228 = A 235 := hO.ne (f := 228) (g := 235) rfl rfl (by decide)
  have n228_236 : ¬ A 228 = A 236 := hO.ne (f := 228) (g := 236) rfl rfl (by decide)
  have n229_227 : ¬ A 229 = A 227 := hO.ne (f := 229) (g := 227) rfl rfl (by decide)
  have n229_228 : ¬ A 229 = A 228 := hO.ne (f := 229) (g := 228) rfl rfl (by decide)
  have n229_231 : ¬ A 229 = A 231 := hO.ne (f := 229) (g := 231) rfl rfl (by decide)
  have n229_232 : ¬ A 229 = A 232 := hO.ne (f := 229) (g := 232) rfl rfl (by decide)
  have n229_233 : ¬ A 229 = A 233 := hO.ne (f := 229) (g := 233) rfl rfl (by decide)
  have n229_234 : ¬ A 229 = A 234 := hO.ne (f := 229) (g := 234) rfl rfl (by decide)
  have n229_235 : ¬ A 229 = A 235 := hO.ne (f := 229) (g := 235) rfl rfl (by decide)
  have n229_236 : ¬ A 229 = A 236 := hO.ne (f := 229) (g := 236) rfl rfl (by decide)
  have n231_227 : ¬ A 231 = A 227 := hO.ne (f := 231) (g := 227) rfl rfl (by decide)
  have n231_228 : ¬ A 231 = A 228 := hO.ne (f := 231) (g := 228) rfl rfl (by decide)
  have n231_229 : ¬ A 231 = A 229 := hO.ne (f := 231) (g := 229) rfl rfl (by decide)
  have n231_232 : ¬ A 231 = A 232 := hO.ne (f := 231) (g := 232) rfl rfl (by decide)
  have n231_233 : ¬ A 231 = A 233 := hO.ne (f := 231) (g := 233) rfl rfl (by decide)
  have n231_234 : ¬ A 231 = A 234 := hO.ne (f := 231) (g := 234) rfl rfl (by decide)
  have n231_235 : ¬ A 231 = A 235 := hO.ne (f := 231) (g := 235) rfl rfl (by decide)
  have n231_236 : ¬ A 231 = A 236 := hO.ne (f := 231) (g := 236) rfl rfl (by decide)
  have n232_227 : ¬ A 232 = A 227 := hO.ne (f := 232) (g := 227) rfl rfl (by decide)
  have n232_228 : ¬ A 232 = A 228 := hO.ne (f := 232) (g := 228) rfl rfl (by decide)
  have n232_229 : ¬ A 232 = A 229 := hO.ne (f := 232) (g := 229) rfl rfl (by decide)
  have n232_231 : ¬ A 232 = A 231 := hO.ne (f := 232) (g := 231) rfl rfl (by decide)
  have n232_233 : ¬ A 232 = A 233 := hO.ne (f := 232) (g := 233) rfl rfl (by decide)
  have n232_234 : ¬ A 232 = A 234 := hO.ne (f := 232) (g := 234) rfl rfl (by decide)
  have n232_235 : ¬ A 232 = A 235 := hO.ne (f := 232) (g := 235) rfl rfl (by decide)
  have n232_236 : ¬ A 232 = A 236 := hO.ne (f := 232) (g := 236) rfl rfl (by decide)
  have n233_227 : ¬ A 233 = A 227 := hO.ne (f := 233) (g := 227) rfl rfl (by decide)
  have n233_228 : ¬ A 233 = A 228 := hO.ne (f := 233) (g := 228) rfl rfl (by decide)
  have n233_229 : ¬ A 233 = A 229 := hO.ne (f := 233) (g := 229) rfl rfl (by decide)
  have n233_231 : ¬ A 233 = A 231 := hO.ne (f := 233) (g := 231) rfl rfl (by decide)
  have n233_232 : ¬ A 233 = A 232 := hO.ne (f := 233) (g := 232) rfl rfl (by decide)
  have n233_234 : ¬ A 233 = A 234 := hO.ne (f := 233) (g := 234) rfl rfl (by decide)
  have n233_235 : ¬ A 233 = A 235 := hO.ne (f := 233) (g := 235) rfl rfl (by decide)
  have n233_236 : ¬ A 233 = A 236 := hO.ne (f := 233) (g := 236) rfl rfl (by decide)
  have n234_227 : ¬ A 234 = A 227 := hO.ne (f := 234) (g := 227) rfl rfl (by decide)
  have n234_228 : ¬ A 234 = A 228 := hO.ne (f := 234) (g := 228) rfl rfl (by decide)
  have n234_229 : ¬ A 234 = A 229 := hO.ne (f := 234) (g := 229) rfl rfl (by decide)
  have n234_231 : ¬ A 234 = A 231 := hO.ne (f := 234) (g := 231) rfl rfl (by decide)
  have n234_232 : ¬ A 234 = A 232 := hO.ne (f := 234) (g := 232) rfl rfl (by decide)
  have n234_233 : ¬ A 234 = A 233 := hO.ne (f := 234) (g := 233) rfl rfl (by decide)
  have n234_235 : ¬ A 234 = A 235 := hO.ne (f := 234) (g := 235) rfl rfl (by decide)
  have n234_236 : ¬ A 234 = A 236 := hO.ne (f := 234) (g := 236) rfl rfl (by decide)
  have n235_227 : ¬ A 235 = A 227 := hO.ne (f := 235) (g := 227) rfl rfl (by decide)
  have n235_228 : ¬ A 235 = A 228 := hO.ne (f := 235) (g := 228) rfl rfl (by decide)
  have n235_229 : ¬ A 235 = A 229 := hO.ne (f := 235) (g := 229) rfl rfl (by decide)
  have n235_231 : ¬ A 235 = A 231 := hO.ne (f := 235) (g := 231) rfl rfl (by decide)
  have n235_232 : ¬ A 235 = A 232 := hO.ne (f := 235) (g := 232) rfl rfl (by decide)
  have n235_233 : ¬ A 235 = A 233 := hO.ne (f := 235) (g := 233) rfl rfl (by decide)
  have n235_234 : ¬ A 235 = A 234 := hO.ne (f := 235) (g := 234) rfl rfl (by decide)
  have n235_236 : ¬ A 235 = A 236 := hO.ne (f := 235) (g := 236) rfl rfl (by decide)
  have n236_227 : ¬ A 236 = A 227 := hO.ne (f := 236) (g := 227) rfl rfl (by decide)
  have n236_228 : ¬ A 236 = A 228 := hO.ne (f := 236) (g := 228) rfl rfl (by decide)
  have n236_229 : ¬ A 236 = A 229 := hO.ne (f := 236) (g := 229) rfl rfl (by decide)
  have n236_231 : ¬ A 236 = A 231 := hO.ne (f := 236) (g := 231) rfl rfl (by decide)
  have n236_232 : ¬ A 236 = A 232 := hO.ne (f := 236) (g := 232) rfl rfl (by decide)
  have n236_233 : ¬ A 236 = A 233 := hO.ne (f := 236) (g := 233) rfl rfl (by decide)
  have n236_234 : ¬ A 236 = A 234 := hO.ne (f := 236) (g := 234) rfl rfl (by decide)
  have n236_235 : ¬ A 236 = A 235 := hO.ne (f := 236) (g := 235) rfl rfl (by decide)
  have h0 := hM.1
  obtain ⟨r227, k227, l227⟩ : mR M 227 m = some (A 227) ∧ mK M (A 227) = 9 ∧ mN M (A 227) = 8 := hM.2 227 rfl
  obtain ⟨r228, k228, l228⟩ : mR M 228 m = some (A 228) ∧ mK M (A 228) = 9 ∧ mN M (A 228) = 8 := hM.2 228 rfl
  obtain ⟨r229, k229, l229⟩ : mR M 229 m = some (A 229) ∧ mK M (A 229) = 9 ∧ mN M (A 229) = 8 := hM.2 229 rfl
  obtain ⟨r231, k231, l231⟩ : mR M 231 m = some (A 231) ∧ mK M (A 231) = 9 ∧ mN M (A 231) = 2560 := hM.2 231 rfl
  obtain ⟨r232, k232, l232⟩ : mR M 232 m = some (A 232) ∧ mK M (A 232) = 9 ∧ mN M (A 232) = 2560 := hM.2 232 rfl
  obtain ⟨r233, k233, l233⟩ : mR M 233 m = some (A 233) ∧ mK M (A 233) = 9 ∧ mN M (A 233) = 400 := hM.2 233 rfl
  obtain ⟨r235, k235, l235⟩ : mR M 235 m = some (A 235) ∧ mK M (A 235) = 10 ∧ mN M (A 235) = 400 := hM.2 235 rfl
  have sc : (nI s).toNatClampNeg = s := nI_clamp (by omega)
  have sv : vp_in (nI s) 8 := vp_in_nI hs (by decide)
  obtain ⟨ta, tb'⟩ := lt_of_i64 x
  have ti := i64_i32 x
  have hkd : aI M (A 225) s = S.1 := hH.1
  have pl := hP.1
  have p300 := hP.2.1
  have bl := hB.1
  have b300 := hB.2.1
  have ll := hT.1
  have l40 := hT.2.1
  have same : setBL S (S.2.2.2.1, S.2.2.2.2) = S := rfl
  refine ⟨0, 0, Nat.zero_le _, Nat.zero_le _, Nat.le_of_ble_eq_true rfl, fun G hG => ?_⟩
  unfold plc at hq
  by_cases c1 : ¬ x < 0 ∧ ¬ 1000000000 < x
  · by_cases c2 : isVd S.1 v = 1
    · have c2' : ¬ isVd S.1 v = 0 := by rw [c2]; decide
      rw [if_neg (fun z => z ⟨c1, c2⟩)] at hq
      have main : G 27 [(0, .ref m), (1, .int (nI s)), (2, .long x.toInt64), (4, .long v)] [] M 0 0 := by
        by_cases c3 : x < sEnd S.2.2.1
        · rw [if_pos c3] at hq
          refine e_g2 hG [(38, [0, 1, 4, 6])] 60 ?_
          simp only [e_wp_s, Option.getD_some, Option.isSome_some, Option.isSome_none, xis0, xis1, xis2, xis3, xis4, e_ks, lk_k, lk_c, List.lookup_nil, gt_c, vi_i, k1_n, k1_c, k2_n, k2_c, ar_n, ar_c, pk_n, pk_c, rm_0, rm_1, rm_2, rm_3, rm_4, rm_5, rc_9, rcs, fvs, rf_s, rf_n, isI_i, isL_l, isR_r, isR_n, isR_q, ct_i, ct_l, ct_r, ct_n, ct_q, tFs, tCs, tKs, tJs, tSs, e_nf, lgs, ↓reduceIte, true_and, and_true, false_and, and_false, or_true, true_or, false_or, or_false, Nat.reduceAdd, Nat.reduceEqDiff, Nat.reduceDiv, Nat.reduceLT, Nat.reduceLeDiff, Nat.zero_add, reduceCtorEq, Bool.false_eq_true, Option.toList_some, Option.toList_none, List.cons_append, List.nil_append, not_true_eq_false, not_false_eq_true, Nat.sub_zero, dsX7_placed_0, dsX7_placed_1, jsX7_placed, xcX7_placed, h0, ti]
          refine ⟨A, s, _, hM, hs, hSp, rfl, ?_⟩
          refine e_g2 hG [] 60 ?_
          simp only [e_wp_s, Option.getD_some, Option.isSome_some, Option.isSome_none, xis0, xis1, xis2, xis3, xis4, e_ks, lk_k, lk_c, List.lookup_nil, gt_c, vi_i, k1_n, k1_c, k2_n, k2_c, ar_n, ar_c, pk_n, pk_c, rm_0, rm_1, rm_2, rm_3, rm_4, rm_5, rc_9, rcs, fvs, rf_s, rf_n, isI_i, isL_l, isR_r, isR_n, isR_q, ct_i, ct_l, ct_r, ct_n, ct_q, tFs, tCs, tKs, tJs, tSs, e_nf, lgs, ↓reduceIte, true_and, and_true, false_and, and_false, or_true, true_or, false_or, or_false, Nat.reduceAdd, Nat.reduceEqDiff, Nat.reduceDiv, Nat.reduceLT, Nat.reduceLeDiff, Nat.zero_add, reduceCtorEq, Bool.false_eq_true, Option.toList_some, Option.toList_none, List.cons_append, List.nil_append, not_true_eq_false, not_false_eq_true, Nat.sub_zero, dsX7_placed_0, dsX7_placed_1, jsX7_placed, xcX7_placed, c3]
          exact hq M MC.rf MI.rf hS
        · rw [if_neg c3] at hq
          -- a main point
          have mainp : isLt S.2.2.2.1 x = false → G 75 [(0, .ref m), (1, .int (nI s)), (4, .long v), (6, .int x)] [] M 0 0 := by
            intro cl
            rw [if_neg (by show ¬ isLt S.2.2.2.1 x = true; rw [cl]; decide)] at hq
            by_cases c4 : 300 ≤ (mpts S.2.2.2.1).length
            · rw [if_pos c4] at hq
              have e1 : nI (mpts S.2.2.2.1).length = 300 := by rw [show (mpts S.2.2.2.1).length = 300 by omega]; rfl
              refine e_g2 hG [] 60 ?_
              simp only [e_wp_s, Option.getD_some, Option.isSome_some, Option.isSome_none, xis0, xis1, xis2, xis3, xis4, e_ks, lk_k, lk_c, List.lookup_nil, gt_c, vi_i, k1_n, k1_c, k2_n, k2_c, ar_n, ar_c, pk_n, pk_c, rm_0, rm_1, rm_2, rm_3, rm_4, rm_5, rc_9, rcs, fvs, rf_s, rf_n, isI_i, isL_l, isR_r, isR_n, isR_q, ct_i, ct_l, ct_r, ct_n, ct_q, tFs, tCs, tKs, tJs, tSs, e_nf, lgs, ↓reduceIte, true_and, and_true, false_and, and_false, or_true, true_or, false_or, or_false, Nat.reduceAdd, Nat.reduceEqDiff, Nat.reduceDiv, Nat.reduceLT, Nat.reduceLeDiff, Nat.zero_add, reduceCtorEq, Bool.false_eq_true, Option.toList_some, Option.toList_none, List.cons_append, List.nil_append, not_true_eq_false, not_false_eq_true, Nat.sub_zero, dsX7_placed_0, dsX7_placed_1, jsX7_placed, xcX7_placed, h0, r227, k227, l227, sc, sv, pl, e1]
              exact hq M MC.rf MI.rf hS
            · rw [if_neg c4] at hq
              have e1 : ¬ nI (mpts S.2.2.2.1).length = 300 := fun z => by
                have := (nI_eq (b := 300) (by omega) (by decide)).mp z
                omega
              have hne := neB_len (bk := S.2.2.2.1) (fun y hy => (hB.2.2.2 y hy).1)
              have add : sp_X7_addMain [.ref m, .int (nI s), .int x, .long v, .int (if opb S.2.2.2.1 then 1 else 0)] M 0 0 (fun v M' k' n' => G 156 [] (v.toList ++ []) M' k' n') := by
                refine ⟨O, A, s, mpts S.2.2.2.1, S.2.2.2.1, hM, hO, hs, hP, by omega, hB, rfl, rfl, fun _ => by omega, fun U hC hI hP2 hB2 _ => ?_⟩
                refine e_g2 hG [] 60 ?_
                simp only [e_wp_s, Option.getD_some, Option.isSome_some, Option.isSome_none, xis0, xis1, xis2, xis3, xis4, e_ks, lk_k, lk_c, List.lookup_nil, gt_c, vi_i, k1_n, k1_c, k2_n, k2_c, ar_n, ar_c, pk_n, pk_c, rm_0, rm_1, rm_2, rm_3, rm_4, rm_5, rc_9, rcs, fvs, rf_s, rf_n, isI_i, isL_l, isR_r, isR_n, isR_q, ct_i, ct_l, ct_r, ct_n, ct_q, tFs, tCs, tKs, tJs, tSs, e_nf, lgs, ↓reduceIte, true_and, and_true, false_and, and_false, or_true, true_or, false_or, or_false, Nat.reduceAdd, Nat.reduceEqDiff, Nat.reduceDiv, Nat.reduceLT, Nat.reduceLeDiff, Nat.zero_add, reduceCtorEq, Bool.false_eq_true, Option.toList_some, Option.toList_none, List.cons_append, List.nil_append, not_true_eq_false, not_false_eq_true, Nat.sub_zero, dsX7_placed_0, dsX7_placed_1, jsX7_placed, xcX7_placed]
                exact hq U (hC.mono (fun f hf => by revert hf; revert f; decide)) hI ⟨hC.mH (by decide) hH, by rw [← apM_pts] at hP2; exact hP2, hB2, hC.mT (by decide) hT, hC.mSp (fun f h1 h2 => by intro hf; simp at hf; omega) (by decide) hSp⟩
              rcases nil_snoc S.2.2.2.1 with hnil | ⟨bk0, y, hsn⟩
              · rw [hnil] at bl
                have bl0 : aI M (A 228) s = 0 := bl
                have : opb S.2.2.2.1 = true := by rw [hnil]; rfl
                rw [this] at add
                refine e_g2 hG [(156, [])] 60 ?_
                simp only [e_wp_s, Option.getD_some, Option.isSome_some, Option.isSome_none, xis0, xis1, xis2, xis3, xis4, e_ks, lk_k, lk_c, List.lookup_nil, gt_c, vi_i, k1_n, k1_c, k2_n, k2_c, ar_n, ar_c, pk_n, pk_c, rm_0, rm_1, rm_2, rm_3, rm_4, rm_5, rc_9, rcs, fvs, rf_s, rf_n, isI_i, isL_l, isR_r, isR_n, isR_q, ct_i, ct_l, ct_r, ct_n, ct_q, tFs, tCs, tKs, tJs, tSs, e_nf, lgs, ↓reduceIte, true_and, and_true, false_and, and_false, or_true, true_or, false_or, or_false, Nat.reduceAdd, Nat.reduceEqDiff, Nat.reduceDiv, Nat.reduceLT, Nat.reduceLeDiff, Nat.zero_add, reduceCtorEq, Bool.false_eq_true, Option.toList_some, Option.toList_none, List.cons_append, List.nil_append, not_true_eq_false, not_false_eq_true, Nat.sub_zero, dsX7_placed_0, dsX7_placed_1, jsX7_placed, xcX7_placed, h0, r227, k227, l227, r228, k228, l228, sc, sv, pl, e1, bl0]
                exact add
              · have hbl : S.2.2.2.1.length = bk0.length + 1 := by rw [hsn]; simp
                have hy : S.2.2.2.1[bk0.length]? = some y := by rw [hsn]; simp
                have hy1 := (hB.2.2.1 bk0.length y hy).1
                have hw := hB.2.2.2 y (List.mem_of_getElem? hy)
                rw [hbl] at bl
                have n0 : ¬ nI (bk0.length + 1) = 0 := nI_ne0 (by omega) (by omega)
                have i3 : nI (bk0.length + 1) - 1 = nI bk0.length := nI_pred _
                have i4 : (nI (320 * s + bk0.length)).toNatClampNeg = 320 * s + bk0.length := nI_clamp (by omega)
                have i5 : vp_in (nI (320 * s + bk0.length)) 2560 := vp_in_nI (by omega) (by decide)
                have hop : opb S.2.2.2.1 = !(decide (y.1.length < 16) && !tornB y) := by
                  rw [hsn, opb_snoc]
                  congr 2
                  unfold tornB
                  by_cases c : tcnt y.2 226 = 0 <;> simp [c]
                by_cases c5 : y.1.length = 16
                · have e5 : nI y.1.length = 16 := by rw [c5]; rfl
                  have : opb S.2.2.2.1 = true := by rw [hop]; simp [c5]
                  rw [this] at add
                  refine e_g2 hG [(156, [])] 60 ?_
                  simp only [e_wp_s, Option.getD_some, Option.isSome_some, Option.isSome_none, xis0, xis1, xis2, xis3, xis4, e_ks, lk_k, lk_c, List.lookup_nil, gt_c, vi_i, k1_n, k1_c, k2_n, k2_c, ar_n, ar_c, pk_n, pk_c, rm_0, rm_1, rm_2, rm_3, rm_4, rm_5, rc_9, rcs, fvs, rf_s, rf_n, isI_i, isL_l, isR_r, isR_n, isR_q, ct_i, ct_l, ct_r, ct_n, ct_q, tFs, tCs, tKs, tJs, tSs, e_nf, lgs, ↓reduceIte, true_and, and_true, false_and, and_false, or_true, true_or, false_or, or_false, Nat.reduceAdd, Nat.reduceEqDiff, Nat.reduceDiv, Nat.reduceLT, Nat.reduceLeDiff, Nat.zero_add, reduceCtorEq, Bool.false_eq_true, Option.toList_some, Option.toList_none, List.cons_append, List.nil_append, not_true_eq_false, not_false_eq_true, Nat.sub_zero, dsX7_placed_0, dsX7_placed_1, jsX7_placed, xcX7_placed, h0, r227, k227, l227, r228, k228, l228, r232, k232, l232, sc, sv, pl, e1, bl, n0, i3, i4, i5, hy1, e5, ↓sp_X7_spot, spt]
                  exact add
                · have e5 : ¬ nI y.1.length = 16 := fun z => c5 ((nI_eq (b := 16) (by omega) (by decide)).mp z)
                  refine e_g2 hG [(135, [0, 1, 4, 6])] 60 ?_
                  simp only [e_wp_s, Option.getD_some, Option.isSome_some, Option.isSome_none, xis0, xis1, xis2, xis3, xis4, e_ks, lk_k, lk_c, List.lookup_nil, gt_c, vi_i, k1_n, k1_c, k2_n, k2_c, ar_n, ar_c, pk_n, pk_c, rm_0, rm_1, rm_2, rm_3, rm_4, rm_5, rc_9, rcs, fvs, rf_s, rf_n, isI_i, isL_l, isR_r, isR_n, isR_q, ct_i, ct_l, ct_r, ct_n, ct_q, tFs, tCs, tKs, tJs, tSs, e_nf, lgs, ↓reduceIte, true_and, and_true, false_and, and_false, or_true, true_or, false_or, or_false, Nat.reduceAdd, Nat.reduceEqDiff, Nat.reduceDiv, Nat.reduceLT, Nat.reduceLeDiff, Nat.zero_add, reduceCtorEq, Bool.false_eq_true, Option.toList_some, Option.toList_none, List.cons_append, List.nil_append, not_true_eq_false, not_false_eq_true, Nat.sub_zero, dsX7_placed_0, dsX7_placed_1, jsX7_placed, xcX7_placed, h0, r227, k227, l227, r228, k228, l228, r232, k232, l232, sc, sv, pl, e1, bl, n0, i3, i4, i5, hy1, e5, ↓sp_X7_spot, spt]
                  refine ⟨A, s, bk0.length, S.2.2.2.1, y, hM, hs, hB, rfl, rfl, hy, ?_⟩
                  have c6 : y.1.length < 16 := by omega
                  by_cases c7 : tornB y = true
                  · have : opb S.2.2.2.1 = true := by rw [hop]; simp [c7]
                    rw [this] at add
                    rw [if_pos c7]
                    refine e_g2 hG [(156, [])] 60 ?_
                    simp only [e_wp_s, Option.getD_some, Option.isSome_some, Option.isSome_none, xis0, xis1, xis2, xis3, xis4, e_ks, lk_k, lk_c, List.lookup_nil, gt_c, vi_i, k1_n, k1_c, k2_n, k2_c, ar_n, ar_c, pk_n, pk_c, rm_0, rm_1, rm_2, rm_3, rm_4, rm_5, rc_9, rcs, fvs, rf_s, rf_n, isI_i, isL_l, isR_r, isR_n, isR_q, ct_i, ct_l, ct_r, ct_n, ct_q, tFs, tCs, tKs, tJs, tSs, e_nf, lgs, ↓reduceIte, true_and, and_true, false_and, and_false, or_true, true_or, false_or, or_false, Nat.reduceAdd, Nat.reduceEqDiff, Nat.reduceDiv, Nat.reduceLT, Nat.reduceLeDiff, Nat.zero_add, reduceCtorEq, Bool.false_eq_true, Option.toList_some, Option.toList_none, List.cons_append, List.nil_append, not_true_eq_false, not_false_eq_true, Nat.sub_zero, dsX7_placed_0, dsX7_placed_1, jsX7_placed, xcX7_placed, h0, i10]
                    exact add
                  · have : opb S.2.2.2.1 = false := by rw [hop]; simp [c7, c6]
                    rw [this] at add
                    rw [if_neg c7]
                    refine e_g2 hG [(156, [])] 60 ?_
                    simp only [e_wp_s, Option.getD_some, Option.isSome_some, Option.isSome_none, xis0, xis1, xis2, xis3, xis4, e_ks, lk_k, lk_c, List.lookup_nil, gt_c, vi_i, k1_n, k1_c, k2_n, k2_c, ar_n, ar_c, pk_n, pk_c, rm_0, rm_1, rm_2, rm_3, rm_4, rm_5, rc_9, rcs, fvs, rf_s, rf_n, isI_i, isL_l, isR_r, isR_n, isR_q, ct_i, ct_l, ct_r, ct_n, ct_q, tFs, tCs, tKs, tJs, tSs, e_nf, lgs, ↓reduceIte, true_and, and_true, false_and, and_false, or_true, true_or, false_or, or_false, Nat.reduceAdd, Nat.reduceEqDiff, Nat.reduceDiv, Nat.reduceLT, Nat.reduceLeDiff, Nat.zero_add, reduceCtorEq, Bool.false_eq_true, Option.toList_some, Option.toList_none, List.cons_append, List.nil_append, not_true_eq_false, not_false_eq_true, Nat.sub_zero, dsX7_placed_0, dsX7_placed_1, jsX7_placed, xcX7_placed, h0, i10]
                    exact add
          -- a late point
          have latep : isLt S.2.2.2.1 x = true → G 158 [(0, .ref m), (1, .int (nI s)), (4, .long v), (6, .int x)] [] M 0 0 := by
            intro cl
            rw [if_pos (by show isLt S.2.2.2.1 x = true; exact cl)] at hq
            have hle := lbl_le x S.2.2.2.2
            refine e_g2 hG [(169, [0, 1, 4, 6])] 60 ?_
            simp only [e_wp_s, Option.getD_some, Option.isSome_some, Option.isSome_none, xis0, xis1, xis2, xis3, xis4, e_ks, lk_k, lk_c, List.lookup_nil, gt_c, vi_i, k1_n, k1_c, k2_n, k2_c, ar_n, ar_c, pk_n, pk_c, rm_0, rm_1, rm_2, rm_3, rm_4, rm_5, rc_9, rcs, fvs, rf_s, rf_n, isI_i, isL_l, isR_r, isR_n, isR_q, ct_i, ct_l, ct_r, ct_n, ct_q, tFs, tCs, tKs, tJs, tSs, e_nf, lgs, ↓reduceIte, true_and, and_true, false_and, and_false, or_true, true_or, false_or, or_false, Nat.reduceAdd, Nat.reduceEqDiff, Nat.reduceDiv, Nat.reduceLT, Nat.reduceLeDiff, Nat.zero_add, reduceCtorEq, Bool.false_eq_true, Option.toList_some, Option.toList_none, List.cons_append, List.nil_append, not_true_eq_false, not_false_eq_true, Nat.sub_zero, dsX7_placed_0, dsX7_placed_1, jsX7_placed, xcX7_placed, h0]
            refine ⟨A, s, _, hM, hs, hT, rfl, ?_⟩
            refine e_g2 hG [(179, [0, 1, 4, 6, 7])] 60 ?_
            simp only [e_wp_s, Option.getD_some, Option.isSome_some, Option.isSome_none, xis0, xis1, xis2, xis3, xis4, e_ks, lk_k, lk_c, List.lookup_nil, gt_c, vi_i, k1_n, k1_c, k2_n, k2_c, ar_n, ar_c, pk_n, pk_c, rm_0, rm_1, rm_2, rm_3, rm_4, rm_5, rc_9, rcs, fvs, rf_s, rf_n, isI_i, isL_l, isR_r, isR_n, isR_q, ct_i, ct_l, ct_r, ct_n, ct_q, tFs, tCs, tKs, tJs, tSs, e_nf, lgs, ↓reduceIte, true_and, and_true, false_and, and_false, or_true, true_or, false_or, or_false, Nat.reduceAdd, Nat.reduceEqDiff, Nat.reduceDiv, Nat.reduceLT, Nat.reduceLeDiff, Nat.zero_add, reduceCtorEq, Bool.false_eq_true, Option.toList_some, Option.toList_none, List.cons_append, List.nil_append, not_true_eq_false, not_false_eq_true, Nat.sub_zero, dsX7_placed_0, dsX7_placed_1, jsX7_placed, xcX7_placed, h0, l50]
            refine ⟨A, s, _, hM, hs, hT, rfl, ?_⟩
            generalize hkk : lbl x S.2.2.2.2 = k0 at *
            have i1 : (nI (50 * s + k0)).toNatClampNeg = 50 * s + k0 := nI_clamp (by omega)
            have mk : ∀ U lt', MC O A m [229, 233, 235] M U → MI A s M U → mT A U s lt' → MSer A U s (setBL S (S.2.2.2.1, lt')) := fun U lt' hC hI hT' => ⟨hC.mH (by decide) hH, hC.mP (by decide) hP, hC.mB (by decide) hB, hT', hC.mSp (fun f h1 h2 => by intro hf; simp at hf; omega) (by decide) hSp⟩
            have up : ∀ U, MC O A m [229, 233, 235] M U → MC O A m [227, 228, 229, 231, 232, 233, 234, 235, 236] M U := fun U hC => hC.mono (fun f hf => by revert hf; revert f; decide)
            by_cases hh : hasT S.2.2.2.2 x = true
            · rw [if_pos hh]
              have hpl : plL S.2.2.2.2 (x, v) = (3, insL (x, v) S.2.2.2.2) := by unfold plL; rw [if_pos hh]
              rw [hpl] at hq
              obtain ⟨q, hq1, hq2⟩ : ∃ q, S.2.2.2.2[k0]? = some q ∧ q.1 = x := by
                unfold hasT at hh
                rw [hkk] at hh
                cases hx : S.2.2.2.2[k0]? with
                | none => rw [hx] at hh; cases hh
                | some q => rw [hx] at hh; exact ⟨q, rfl, of_decide_eq_true hh⟩
              obtain ⟨w1, w2, w3, w4⟩ := mT_at hT hq1
              have i2 : vp_in (nI (50 * s + k0)) 400 := vp_in_nI (by omega) (by decide)
              have hins : insL (x, v) S.2.2.2.2 = S.2.2.2.2.set k0 (x, v) := by
                have := insL_set (x, v) S.2.2.2.2 q (by show S.2.2.2.2[lbl x S.2.2.2.2]? = _; rw [hkk]; exact hq1) hq2
                rw [this]
                show S.2.2.2.2.set (lbl x S.2.2.2.2) _ = _
                rw [hkk]
              refine e_g2 hG [] 60 ?_
              simp only [e_wp_s, Option.getD_some, Option.isSome_some, Option.isSome_none, xis0, xis1, xis2, xis3, xis4, e_ks, lk_k, lk_c, List.lookup_nil, gt_c, vi_i, k1_n, k1_c, k2_n, k2_c, ar_n, ar_c, pk_n, pk_c, rm_0, rm_1, rm_2, rm_3, rm_4, rm_5, rc_9, rcs, fvs, rf_s, rf_n, isI_i, isL_l, isR_r, isR_n, isR_q, ct_i, ct_l, ct_r, ct_n, ct_q, tFs, tCs, tKs, tJs, tSs, e_nf, lgs, ↓reduceIte, true_and, and_true, false_and, and_false, or_true, true_or, false_or, or_false, Nat.reduceAdd, Nat.reduceEqDiff, Nat.reduceDiv, Nat.reduceLT, Nat.reduceLeDiff, Nat.zero_add, reduceCtorEq, Bool.false_eq_true, Option.toList_some, Option.toList_none, List.cons_append, List.nil_append, not_true_eq_false, not_false_eq_true, Nat.sub_zero, dsX7_placed_0, dsX7_placed_1, jsX7_placed, xcX7_placed, h0, r235, k235, l235, i1, i2, i10]
              have hC : MC O A m [229, 233, 235] M (tL M (A 235) (50 * s + k0) v) := MC.tL MC.rf hO (by decide) rfl
              have hI : MI A s M (tL M (A 235) (50 * s + k0) v) := MI.tL MI.rf hO rfl (Or.inl (dq 50 s _ (by omega)))
              refine hq _ (up _ hC) hI (mk _ _ hC hI ⟨?_, ?_, ?_⟩)
              · simp only [haI]; rw [hins, List.length_set]; exact ll
              · rw [hins, List.length_set]; exact l40
              · refine rdf_eq (fun j y hy => ?_)
                rw [hins, List.getElem?_set] at hy
                simp only [haI, haL, true_and]
                by_cases c : k0 = j
                · rw [if_pos c, if_pos w3] at hy
                  cases hy
                  rw [if_pos (by omega), ← c, w1, hq2]
                · rw [if_neg c] at hy
                  obtain ⟨u1, u2, -⟩ := mT_at hT hy
                  rw [if_neg (by omega), u1, u2]
            · rw [if_neg hh]
              by_cases c40 : S.2.2.2.2.length = 40
              · have hpl : plL S.2.2.2.2 (x, v) = (-5, S.2.2.2.2) := by unfold plL; rw [if_neg hh, if_pos c40]
                rw [hpl] at hq
                have e1 : nI S.2.2.2.2.length = 40 := by rw [c40]; rfl
                refine e_g2 hG [] 60 ?_
                simp only [e_wp_s, Option.getD_some, Option.isSome_some, Option.isSome_none, xis0, xis1, xis2, xis3, xis4, e_ks, lk_k, lk_c, List.lookup_nil, gt_c, vi_i, k1_n, k1_c, k2_n, k2_c, ar_n, ar_c, pk_n, pk_c, rm_0, rm_1, rm_2, rm_3, rm_4, rm_5, rc_9, rcs, fvs, rf_s, rf_n, isI_i, isL_l, isR_r, isR_n, isR_q, ct_i, ct_l, ct_r, ct_n, ct_q, tFs, tCs, tKs, tJs, tSs, e_nf, lgs, ↓reduceIte, true_and, and_true, false_and, and_false, or_true, true_or, false_or, or_false, Nat.reduceAdd, Nat.reduceEqDiff, Nat.reduceDiv, Nat.reduceLT, Nat.reduceLeDiff, Nat.zero_add, reduceCtorEq, Bool.false_eq_true, Option.toList_some, Option.toList_none, List.cons_append, List.nil_append, not_true_eq_false, not_false_eq_true, Nat.sub_zero, dsX7_placed_0, dsX7_placed_1, jsX7_placed, xcX7_placed, h0, r229, k229, l229, sc, sv, ll, e1]
                exact hq M MC.rf MI.rf hS
              · have hpl : plL S.2.2.2.2 (x, v) = (2, insL (x, v) S.2.2.2.2) := by unfold plL; rw [if_neg hh, if_neg c40]
                rw [hpl] at hq
                have e1 : ¬ nI S.2.2.2.2.length = 40 := fun z => c40 ((nI_eq (b := 40) (by omega) (by decide)).mp z)
                have hh2 : ∀ q, S.2.2.2.2[k0]? = some q → ¬ q.1 = x := fun q hx e => hh (by
                  unfold hasT
                  rw [hkk, hx]
                  exact decide_eq_true e)
                have hins : insL (x, v) S.2.2.2.2 = S.2.2.2.2.take k0 ++ (x, v) :: S.2.2.2.2.drop k0 := by
                  have := insL_ins (x, v) S.2.2.2.2 (by show ∀ q, S.2.2.2.2[lbl x S.2.2.2.2]? = _ → _; rw [hkk]; exact hh2)
                  rw [this]
                  show S.2.2.2.2.take (lbl x S.2.2.2.2) ++ _ :: S.2.2.2.2.drop (lbl x S.2.2.2.2) = _
                  rw [hkk]
                have i2 : vp_in (nI (50 * s + k0)) 400 := vp_in_nI (by omega) (by decide)
                generalize hlt : S.2.2.2.2 = lt at *
                have loop : ∀ d U, k0 + d ≤ lt.length → MC O A m [229, 233, 235] M U → MI A s M U → aI U (A 229) = aI M (A 229) → (∀ j, aI U (A 233) j = if 50 * s + (k0 + d) < j ∧ j ≤ 50 * s + lt.length then aI M (A 233) (j - 1) else aI M (A 233) j) → (∀ j, aL U (A 235) j = if 50 * s + (k0 + d) < j ∧ j ≤ 50 * s + lt.length then aL M (A 235) (j - 1) else aL M (A 235) j) → G 220 [(0, .ref m), (1, .int (nI s)), (4, .long v), (6, .int x), (7, .int (nI (50 * s + k0))), (8, .int (nI (50 * s + (k0 + d))))] [] U 0 0 := by
                  intro d
                  induction d with
                  | zero =>
                    intro U hd hC hI u229 uI uL
                    have hMU := hC.ms hM
                    have g0 := hMU.1
                    obtain ⟨ru229, ku229, lu229⟩ : mR U 229 m = some (A 229) ∧ mK U (A 229) = 9 ∧ mN U (A 229) = 8 := hMU.2 229 rfl
                    obtain ⟨ru233, ku233, lu233⟩ : mR U 233 m = some (A 233) ∧ mK U (A 233) = 9 ∧ mN U (A 233) = 400 := hMU.2 233 rfl
                    obtain ⟨ru235, ku235, lu235⟩ : mR U 235 m = some (A 235) ∧ mK U (A 235) = 10 ∧ mN U (A 235) = 400 := hMU.2 235 rfl
                    have e8 : ¬ nI (50 * s + k0) < nI (50 * s + k0) := nI_nlt (Nat.le_refl _) (by omega)
                    have ul : aI U (A 229) s = nI lt.length := by rw [u229]; exact ll
                    refine e_g2 hG [] 60 ?_
                    simp only [e_wp_s, Option.getD_some, Option.isSome_some, Option.isSome_none, xis0, xis1, xis2, xis3, xis4, e_ks, lk_k, lk_c, List.lookup_nil, gt_c, vi_i, k1_n, k1_c, k2_n, k2_c, ar_n, ar_c, pk_n, pk_c, rm_0, rm_1, rm_2, rm_3, rm_4, rm_5, rc_9, rcs, fvs, rf_s, rf_n, isI_i, isL_l, isR_r, isR_n, isR_q, ct_i, ct_l, ct_r, ct_n, ct_q, tFs, tCs, tKs, tJs, tSs, e_nf, lgs, ↓reduceIte, true_and, and_true, false_and, and_false, or_true, true_or, false_or, or_false, Nat.reduceAdd, Nat.reduceEqDiff, Nat.reduceDiv, Nat.reduceLT, Nat.reduceLeDiff, Nat.zero_add, reduceCtorEq, Bool.false_eq_true, Option.toList_some, Option.toList_none, List.cons_append, List.nil_append, not_true_eq_false, not_false_eq_true, Nat.sub_zero, dsX7_placed_0, dsX7_placed_1, jsX7_placed, xcX7_placed, g0, ru229, ku229, lu229, ru233, ku233, lu233, ru235, ku235, lu235, n229_233, n229_235, n233_229, n233_235, n235_229, n235_233, sc, sv, ul, i1, i2, e8, Nat.add_zero, hmK, hmN, hmI, hmL, hmR, haI, haL, haR, nI_1]
                    have hC2 : MC O A m [229, 233, 235] M (tI (tL (tI U (A 233) (50 * s + k0) x) (A 235) (50 * s + k0) v) (A 229) s (nI (lt.length + 1))) := MC.tI (MC.tL (MC.tI hC hO (by decide) rfl) hO (by decide) rfl) hO (by decide) rfl
                    have hI2 : MI A s M (tI (tL (tI U (A 233) (50 * s + k0) x) (A 235) (50 * s + k0) v) (A 229) s (nI (lt.length + 1))) := MI.tI (MI.tL (MI.tI hI hO rfl (Or.inl (dq 50 s _ (by omega)))) hO rfl (Or.inl (dq 50 s _ (by omega)))) hO rfl (Or.inl (Nat.div_one s))
                    have hlen : (insL (x, v) lt).length = lt.length + 1 := by rw [hins, List.length_append, List.length_cons, List.length_take, List.length_drop]; omega
                    refine hq _ (up _ hC2) hI2 (mk _ _ hC2 hI2 ⟨?_, ?_, ?_⟩)
                    · simp only [haI, and_self, if_true]; rw [hlen]
                    · rw [hlen]; omega
                    · refine rdf_eq (fun j y hy => ?_)
                      rw [hins, get_ins hle] at hy
                      simp only [haI, haL, n233_229, n235_229, false_and, if_false, true_and]
                      rw [uI, uL]
                      by_cases c : j < k0
                      · rw [if_pos c] at hy
                        obtain ⟨w1, w2, -⟩ := mT_at hT hy
                        rw [if_neg (show ¬ 50 * s + j = 50 * s + k0 by omega), if_neg (show ¬ 50 * s + j = 50 * s + k0 by omega), if_neg (show ¬ (50 * s + (k0 + 0) < 50 * s + j ∧ 50 * s + j ≤ 50 * s + lt.length) by omega), if_neg (show ¬ (50 * s + (k0 + 0) < 50 * s + j ∧ 50 * s + j ≤ 50 * s + lt.length) by omega), w1, w2]
                      · rw [if_neg c] at hy
                        by_cases c2 : j = k0
                        · rw [if_pos c2] at hy
                          cases hy
                          rw [if_pos (by omega), if_pos (by omega)]
                        · rw [if_neg c2] at hy
                          obtain ⟨w1, w2, w3, -⟩ := mT_at hT hy
                          rw [if_neg (show ¬ 50 * s + j = 50 * s + k0 by omega), if_neg (show ¬ 50 * s + j = 50 * s + k0 by omega), if_pos (show 50 * s + (k0 + 0) < 50 * s + j ∧ 50 * s + j ≤ 50 * s + lt.length by omega), if_pos (show 50 * s + (k0 + 0) < 50 * s + j ∧ 50 * s + j ≤ 50 * s + lt.length by omega), show 50 * s + j - 1 = 50 * s + (j - 1) by omega, w1, w2]
                  | succ d ih =>
                    intro U hd hC hI u229 uI uL
                    have hMU := hC.ms hM
                    have g0 := hMU.1
                    obtain ⟨ru233, ku233, lu233⟩ : mR U 233 m = some (A 233) ∧ mK U (A 233) = 9 ∧ mN U (A 233) = 400 := hMU.2 233 rfl
                    obtain ⟨ru235, ku235, lu235⟩ : mR U 235 m = some (A 235) ∧ mK U (A 235) = 10 ∧ mN U (A 235) = 400 := hMU.2 235 rfl
                    have a1 : nI (50 * s + k0) < nI (50 * s + (k0 + (d + 1))) := nI_lt (by omega) (by omega)
                    have a2 : vp_in (nI (50 * s + (k0 + (d + 1)))) 400 := vp_in_nI (by omega) (by decide)
                    have a3 : (nI (50 * s + (k0 + (d + 1)))).toNatClampNeg = 50 * s + (k0 + (d + 1)) := nI_clamp (by omega)
                    have a4 : nI (50 * s + (k0 + (d + 1))) - 1 = nI (50 * s + (k0 + d)) := nI_pred (50 * s + (k0 + d))
                    have a5 : vp_in (nI (50 * s + (k0 + d))) 400 := vp_in_nI (by omega) (by decide)
                    have a6 : (nI (50 * s + (k0 + d))).toNatClampNeg = 50 * s + (k0 + d) := nI_clamp (by omega)
                    have a7 : nI (50 * s + (k0 + (d + 1))) + -1 = nI (50 * s + (k0 + d)) := by rw [nI_m1]; exact a4
                    refine e_g2 hG [(220, [0, 1, 4, 6, 7, 8])] 60 ?_
                    simp only [e_wp_s, Option.getD_some, Option.isSome_some, Option.isSome_none, xis0, xis1, xis2, xis3, xis4, e_ks, lk_k, lk_c, List.lookup_nil, gt_c, vi_i, k1_n, k1_c, k2_n, k2_c, ar_n, ar_c, pk_n, pk_c, rm_0, rm_1, rm_2, rm_3, rm_4, rm_5, rc_9, rcs, fvs, rf_s, rf_n, isI_i, isL_l, isR_r, isR_n, isR_q, ct_i, ct_l, ct_r, ct_n, ct_q, tFs, tCs, tKs, tJs, tSs, e_nf, lgs, ↓reduceIte, true_and, and_true, false_and, and_false, or_true, true_or, false_or, or_false, Nat.reduceAdd, Nat.reduceEqDiff, Nat.reduceDiv, Nat.reduceLT, Nat.reduceLeDiff, Nat.zero_add, reduceCtorEq, Bool.false_eq_true, Option.toList_some, Option.toList_none, List.cons_append, List.nil_append, not_true_eq_false, not_false_eq_true, Nat.sub_zero, dsX7_placed_0, dsX7_placed_1, jsX7_placed, xcX7_placed, g0, ru233, ku233, lu233, ru235, ku235, lu235, a1, a2, a3, a4, a5, a6, a7, hmK, hmN, hmI, hmL, hmR, haI, haL, haR]
                    refine ih _ (by omega) (MC.tL (MC.tI hC hO (by decide) rfl) hO (by decide) rfl) (MI.tL (MI.tI hI hO rfl (Or.inl (dq 50 s _ (by omega)))) hO rfl (Or.inl (dq 50 s _ (by omega)))) ?_ (fun j => ?_) (fun j => ?_)
                    · funext j; simp only [haI, n229_233, false_and, if_false]; rw [u229]
                    · simp only [haI, true_and]
                      by_cases c : j = 50 * s + (k0 + (d + 1))
                      · rw [if_pos c, uI, if_neg (by omega), if_pos (by omega), c]; congr 1
                      · rw [if_neg c, uI]
                        by_cases c2 : 50 * s + (k0 + (d + 1)) < j ∧ j ≤ 50 * s + lt.length
                        · rw [if_pos c2, if_pos (by omega)]
                        · rw [if_neg c2, if_neg (by omega)]
                    · simp only [haL, true_and]
                      by_cases c : j = 50 * s + (k0 + (d + 1))
                      · rw [if_pos c, uL, if_neg (by omega), if_pos (by omega), c]; congr 1
                      · rw [if_neg c, uL]
                        by_cases c2 : 50 * s + (k0 + (d + 1)) < j ∧ j ≤ 50 * s + lt.length
                        · rw [if_pos c2, if_pos (by omega)]
                        · rw [if_neg c2, if_neg (by omega)]
                refine e_g2 hG [(220, [0, 1, 4, 6, 7, 8])] 60 ?_
                simp only [e_wp_s, Option.getD_some, Option.isSome_some, Option.isSome_none, xis0, xis1, xis2, xis3, xis4, e_ks, lk_k, lk_c, List.lookup_nil, gt_c, vi_i, k1_n, k1_c, k2_n, k2_c, ar_n, ar_c, pk_n, pk_c, rm_0, rm_1, rm_2, rm_3, rm_4, rm_5, rc_9, rcs, fvs, rf_s, rf_n, isI_i, isL_l, isR_r, isR_n, isR_q, ct_i, ct_l, ct_r, ct_n, ct_q, tFs, tCs, tKs, tJs, tSs, e_nf, lgs, ↓reduceIte, true_and, and_true, false_and, and_false, or_true, true_or, false_or, or_false, Nat.reduceAdd, Nat.reduceEqDiff, Nat.reduceDiv, Nat.reduceLT, Nat.reduceLeDiff, Nat.zero_add, reduceCtorEq, Bool.false_eq_true, Option.toList_some, Option.toList_none, List.cons_append, List.nil_append, not_true_eq_false, not_false_eq_true, Nat.sub_zero, dsX7_placed_0, dsX7_placed_1, jsX7_placed, xcX7_placed, h0, r229, k229, l229, sc, sv, ll, e1, l50]
                have hl2 := loop (lt.length - k0) M (by omega) MC.rf MI.rf rfl (fun j => by rw [if_neg (by omega)]) (fun j => by rw [if_neg (by omega)])
                rw [show k0 + (lt.length - k0) = lt.length by omega] at hl2
                exact hl2
          refine e_g2 hG [(38, [0, 1, 4, 6])] 60 ?_
          simp only [e_wp_s, Option.getD_some, Option.isSome_some, Option.isSome_none, xis0, xis1, xis2, xis3, xis4, e_ks, lk_k, lk_c, List.lookup_nil, gt_c, vi_i, k1_n, k1_c, k2_n, k2_c, ar_n, ar_c, pk_n, pk_c, rm_0, rm_1, rm_2, rm_3, rm_4, rm_5, rc_9, rcs, fvs, rf_s, rf_n, isI_i, isL_l, isR_r, isR_n, isR_q, ct_i, ct_l, ct_r, ct_n, ct_q, tFs, tCs, tKs, tJs, tSs, e_nf, lgs, ↓reduceIte, true_and, and_true, false_and, and_false, or_true, true_or, false_or, or_false, Nat.reduceAdd, Nat.reduceEqDiff, Nat.reduceDiv, Nat.reduceLT, Nat.reduceLeDiff, Nat.zero_add, reduceCtorEq, Bool.false_eq_true, Option.toList_some, Option.toList_none, List.cons_append, List.nil_append, not_true_eq_false, not_false_eq_true, Nat.sub_zero, dsX7_placed_0, dsX7_placed_1, jsX7_placed, xcX7_placed, h0, ti]
          refine ⟨A, s, _, hM, hs, hSp, rfl, ?_⟩
          rcases nil_snoc S.2.2.2.1 with hnil | ⟨bk0, y, hsn⟩
          · have pl0 : aI M (A 227) s = 0 := by rw [pl, hnil]; rfl
            refine e_g2 hG [(75, [0, 1, 4, 6])] 60 ?_
            simp only [e_wp_s, Option.getD_some, Option.isSome_some, Option.isSome_none, xis0, xis1, xis2, xis3, xis4, e_ks, lk_k, lk_c, List.lookup_nil, gt_c, vi_i, k1_n, k1_c, k2_n, k2_c, ar_n, ar_c, pk_n, pk_c, rm_0, rm_1, rm_2, rm_3, rm_4, rm_5, rc_9, rcs, fvs, rf_s, rf_n, isI_i, isL_l, isR_r, isR_n, isR_q, ct_i, ct_l, ct_r, ct_n, ct_q, tFs, tCs, tKs, tJs, tSs, e_nf, lgs, ↓reduceIte, true_and, and_true, false_and, and_false, or_true, true_or, false_or, or_false, Nat.reduceAdd, Nat.reduceEqDiff, Nat.reduceDiv, Nat.reduceLT, Nat.reduceLeDiff, Nat.zero_add, reduceCtorEq, Bool.false_eq_true, Option.toList_some, Option.toList_none, List.cons_append, List.nil_append, not_true_eq_false, not_false_eq_true, Nat.sub_zero, dsX7_placed_0, dsX7_placed_1, jsX7_placed, xcX7_placed, h0, r227, k227, l227, sc, sv, pl0, c3]
            exact mainp (by rw [hnil]; rfl)
          · have hy : S.2.2.2.1[bk0.length]? = some y := by rw [hsn]; simp
            have hyn := (hB.2.2.2 y (List.mem_of_getElem? hy)).1
            obtain ⟨q, hq1, hq2⟩ := last_T hyn
            have hyl : 0 < y.1.length := by
              cases hl : y.1 with
              | nil => exact absurd hl hyn
              | cons _ _ => exact Nat.succ_pos _
            have hml : (mpts S.2.2.2.1).length = (mpts bk0).length + y.1.length := by rw [hsn, mpts_app, mpts_1, List.length_append]
            have hmq := mpts_at hy (k := y.1.length - 1) (by omega)
            rw [hq1] at hmq
            have htk : S.2.2.2.1.take bk0.length = bk0 := by rw [hsn]; simp
            rw [htk, show (mpts bk0).length + (y.1.length - 1) = (mpts S.2.2.2.1).length - 1 by omega] at hmq
            obtain ⟨w1, -, w3, -⟩ := mP_at hP hmq
            have n0 : ¬ nI (mpts S.2.2.2.1).length = 0 := nI_ne0 (by omega) (by omega)
            have i3 : nI (mpts S.2.2.2.1).length - 1 = nI ((mpts S.2.2.2.1).length - 1) := nI_sub (b := 1) (by omega)
            have i4 : (nI (320 * s + ((mpts S.2.2.2.1).length - 1))).toNatClampNeg = 320 * s + ((mpts S.2.2.2.1).length - 1) := nI_clamp (by omega)
            have i5 : vp_in (nI (320 * s + ((mpts S.2.2.2.1).length - 1))) 2560 := vp_in_nI (by omega) (by decide)
            have hil : isLt S.2.2.2.1 x = decide (¬ q.1 < x) := by rw [hsn]; unfold isLt; rw [List.getLast?_concat]; simp only; rw [hq2]
            by_cases c4 : q.1 < x
            · refine e_g2 hG [(75, [0, 1, 4, 6])] 60 ?_
              simp only [e_wp_s, Option.getD_some, Option.isSome_some, Option.isSome_none, xis0, xis1, xis2, xis3, xis4, e_ks, lk_k, lk_c, List.lookup_nil, gt_c, vi_i, k1_n, k1_c, k2_n, k2_c, ar_n, ar_c, pk_n, pk_c, rm_0, rm_1, rm_2, rm_3, rm_4, rm_5, rc_9, rcs, fvs, rf_s, rf_n, isI_i, isL_l, isR_r, isR_n, isR_q, ct_i, ct_l, ct_r, ct_n, ct_q, tFs, tCs, tKs, tJs, tSs, e_nf, lgs, ↓reduceIte, true_and, and_true, false_and, and_false, or_true, true_or, false_or, or_false, Nat.reduceAdd, Nat.reduceEqDiff, Nat.reduceDiv, Nat.reduceLT, Nat.reduceLeDiff, Nat.zero_add, reduceCtorEq, Bool.false_eq_true, Option.toList_some, Option.toList_none, List.cons_append, List.nil_append, not_true_eq_false, not_false_eq_true, Nat.sub_zero, dsX7_placed_0, dsX7_placed_1, jsX7_placed, xcX7_placed, h0, r227, k227, l227, r231, k231, l231, sc, sv, pl, c3, c4, n0, i3, i4, i5, w1, ↓sp_X7_spot, spt]
              exact mainp (by rw [hil]; simp [c4])
            · refine e_g2 hG [(158, [0, 1, 4, 6])] 60 ?_
              simp only [e_wp_s, Option.getD_some, Option.isSome_some, Option.isSome_none, xis0, xis1, xis2, xis3, xis4, e_ks, lk_k, lk_c, List.lookup_nil, gt_c, vi_i, k1_n, k1_c, k2_n, k2_c, ar_n, ar_c, pk_n, pk_c, rm_0, rm_1, rm_2, rm_3, rm_4, rm_5, rc_9, rcs, fvs, rf_s, rf_n, isI_i, isL_l, isR_r, isR_n, isR_q, ct_i, ct_l, ct_r, ct_n, ct_q, tFs, tCs, tKs, tJs, tSs, e_nf, lgs, ↓reduceIte, true_and, and_true, false_and, and_false, or_true, true_or, false_or, or_false, Nat.reduceAdd, Nat.reduceEqDiff, Nat.reduceDiv, Nat.reduceLT, Nat.reduceLeDiff, Nat.zero_add, reduceCtorEq, Bool.false_eq_true, Option.toList_some, Option.toList_none, List.cons_append, List.nil_append, not_true_eq_false, not_false_eq_true, Nat.sub_zero, dsX7_placed_0, dsX7_placed_1, jsX7_placed, xcX7_placed, h0, r227, k227, l227, r231, k231, l231, sc, sv, pl, c3, c4, n0, i3, i4, i5, w1, ↓sp_X7_spot, spt]
              exact latep (by rw [hil]; simp [c4])
      refine e_g2 hG [(21, [0, 1, 2, 4])] 60 ?_
      simp only [e_wp_s, Option.getD_some, Option.isSome_some, Option.isSome_none, xis0, xis1, xis2, xis3, xis4, e_ks, lk_k, lk_c, List.lookup_nil, gt_c, vi_i, k1_n, k1_c, k2_n, k2_c, ar_n, ar_c, pk_n, pk_c, rm_0, rm_1, rm_2, rm_3, rm_4, rm_5, rc_9, rcs, fvs, rf_s, rf_n, isI_i, isL_l, isR_r, isR_n, isR_q, ct_i, ct_l, ct_r, ct_n, ct_q, tFs, tCs, tKs, tJs, tSs, e_nf, lgs, ↓reduceIte, true_and, and_true, false_and, and_false, or_true, true_or, false_or, or_false, Nat.reduceAdd, Nat.reduceEqDiff, Nat.reduceDiv, Nat.reduceLT, Nat.reduceLeDiff, Nat.zero_add, reduceCtorEq, Bool.false_eq_true, Option.toList_some, Option.toList_none, List.cons_append, List.nil_append, not_true_eq_false, not_false_eq_true, Nat.sub_zero, dsX7_placed_0, dsX7_placed_1, jsX7_placed, xcX7_placed, h0, ta, tb', c1]
      refine ⟨A, s, hM, hs, rfl, ?_⟩
      rw [hkd]
      refine e_g2 hG [(27, [0, 1, 2, 4])] 60 ?_
      simp only [e_wp_s, Option.getD_some, Option.isSome_some, Option.isSome_none, xis0, xis1, xis2, xis3, xis4, e_ks, lk_k, lk_c, List.lookup_nil, gt_c, vi_i, k1_n, k1_c, k2_n, k2_c, ar_n, ar_c, pk_n, pk_c, rm_0, rm_1, rm_2, rm_3, rm_4, rm_5, rc_9, rcs, fvs, rf_s, rf_n, isI_i, isL_l, isR_r, isR_n, isR_q, ct_i, ct_l, ct_r, ct_n, ct_q, tFs, tCs, tKs, tJs, tSs, e_nf, lgs, ↓reduceIte, true_and, and_true, false_and, and_false, or_true, true_or, false_or, or_false, Nat.reduceAdd, Nat.reduceEqDiff, Nat.reduceDiv, Nat.reduceLT, Nat.reduceLeDiff, Nat.zero_add, reduceCtorEq, Bool.false_eq_true, Option.toList_some, Option.toList_none, List.cons_append, List.nil_append, not_true_eq_false, not_false_eq_true, Nat.sub_zero, dsX7_placed_0, dsX7_placed_1, jsX7_placed, xcX7_placed, c2']
      exact main
    · rw [if_pos (fun z => c2 z.2)] at hq
      have c2' : isVd S.1 v = 0 := (isV01 S.1 v).resolve_right c2
      refine e_g2 hG [(21, [0, 1, 2, 4])] 60 ?_
      simp only [e_wp_s, Option.getD_some, Option.isSome_some, Option.isSome_none, xis0, xis1, xis2, xis3, xis4, e_ks, lk_k, lk_c, List.lookup_nil, gt_c, vi_i, k1_n, k1_c, k2_n, k2_c, ar_n, ar_c, pk_n, pk_c, rm_0, rm_1, rm_2, rm_3, rm_4, rm_5, rc_9, rcs, fvs, rf_s, rf_n, isI_i, isL_l, isR_r, isR_n, isR_q, ct_i, ct_l, ct_r, ct_n, ct_q, tFs, tCs, tKs, tJs, tSs, e_nf, lgs, ↓reduceIte, true_and, and_true, false_and, and_false, or_true, true_or, false_or, or_false, Nat.reduceAdd, Nat.reduceEqDiff, Nat.reduceDiv, Nat.reduceLT, Nat.reduceLeDiff, Nat.zero_add, reduceCtorEq, Bool.false_eq_true, Option.toList_some, Option.toList_none, List.cons_append, List.nil_append, not_true_eq_false, not_false_eq_true, Nat.sub_zero, dsX7_placed_0, dsX7_placed_1, jsX7_placed, xcX7_placed, h0, ta, tb', c1]
      refine ⟨A, s, hM, hs, rfl, ?_⟩
      rw [hkd]
      refine e_g2 hG [] 60 ?_
      simp only [e_wp_s, Option.getD_some, Option.isSome_some, Option.isSome_none, xis0, xis1, xis2, xis3, xis4, e_ks, lk_k, lk_c, List.lookup_nil, gt_c, vi_i, k1_n, k1_c, k2_n, k2_c, ar_n, ar_c, pk_n, pk_c, rm_0, rm_1, rm_2, rm_3, rm_4, rm_5, rc_9, rcs, fvs, rf_s, rf_n, isI_i, isL_l, isR_r, isR_n, isR_q, ct_i, ct_l, ct_r, ct_n, ct_q, tFs, tCs, tKs, tJs, tSs, e_nf, lgs, ↓reduceIte, true_and, and_true, false_and, and_false, or_true, true_or, false_or, or_false, Nat.reduceAdd, Nat.reduceEqDiff, Nat.reduceDiv, Nat.reduceLT, Nat.reduceLeDiff, Nat.zero_add, reduceCtorEq, Bool.false_eq_true, Option.toList_some, Option.toList_none, List.cons_append, List.nil_append, not_true_eq_false, not_false_eq_true, Nat.sub_zero, dsX7_placed_0, dsX7_placed_1, jsX7_placed, xcX7_placed, c2']
      exact hq M MC.rf MI.rf hS
  · rw [if_pos (fun z => c1 z.1)] at hq
    by_cases d1 : x < 0
    · refine e_g2 hG [] 60 ?_
      simp only [e_wp_s, Option.getD_some, Option.isSome_some, Option.isSome_none, xis0, xis1, xis2, xis3, xis4, e_ks, lk_k, lk_c, List.lookup_nil, gt_c, vi_i, k1_n, k1_c, k2_n, k2_c, ar_n, ar_c, pk_n, pk_c, rm_0, rm_1, rm_2, rm_3, rm_4, rm_5, rc_9, rcs, fvs, rf_s, rf_n, isI_i, isL_l, isR_r, isR_n, isR_q, ct_i, ct_l, ct_r, ct_n, ct_q, tFs, tCs, tKs, tJs, tSs, e_nf, lgs, ↓reduceIte, true_and, and_true, false_and, and_false, or_true, true_or, false_or, or_false, Nat.reduceAdd, Nat.reduceEqDiff, Nat.reduceDiv, Nat.reduceLT, Nat.reduceLeDiff, Nat.zero_add, reduceCtorEq, Bool.false_eq_true, Option.toList_some, Option.toList_none, List.cons_append, List.nil_append, not_true_eq_false, not_false_eq_true, Nat.sub_zero, dsX7_placed_0, dsX7_placed_1, jsX7_placed, xcX7_placed, ta, tb', d1]
      exact hq M MC.rf MI.rf hS
    · have d2 : 1000000000 < x := Decidable.byContradiction (fun z => c1 ⟨d1, z⟩)
      refine e_g2 hG [] 60 ?_
      simp only [e_wp_s, Option.getD_some, Option.isSome_some, Option.isSome_none, xis0, xis1, xis2, xis3, xis4, e_ks, lk_k, lk_c, List.lookup_nil, gt_c, vi_i, k1_n, k1_c, k2_n, k2_c, ar_n, ar_c, pk_n, pk_c, rm_0, rm_1, rm_2, rm_3, rm_4, rm_5, rc_9, rcs, fvs, rf_s, rf_n, isI_i, isL_l, isR_r, isR_n, isR_q, ct_i, ct_l, ct_r, ct_n, ct_q, tFs, tCs, tKs, tJs, tSs, e_nf, lgs, ↓reduceIte, true_and, and_true, false_and, and_false, or_true, true_or, false_or, or_false, Nat.reduceAdd, Nat.reduceEqDiff, Nat.reduceDiv, Nat.reduceLT, Nat.reduceLeDiff, Nat.zero_add, reduceCtorEq, Bool.false_eq_true, Option.toList_some, Option.toList_none, List.cons_append, List.nil_append, not_true_eq_false, not_false_eq_true, Nat.sub_zero, dsX7_placed_0, dsX7_placed_1, jsX7_placed, xcX7_placed, ta, tb', d1, d2]
      exact hq M MC.rf MI.rf hS
