/-! the reference: merge -/
def insF (l : List PT) (p : PT) : List PT := insL p l
def mMg (S : SER) : List PT := S.2.2.2.2.foldl insF (mpts S.2.2.2.1)
def mN7 (S : SER) : Nat := (mpts S.2.2.2.1).length + S.2.2.2.2.length - cnt (fun p => hasT S.2.2.2.2 p.1) (mpts S.2.2.2.1)
theorem insF_le (l : List PT) (p : PT) : l.length ≤ (insF l p).length ∧ (insF l p).length ≤ l.length + 1 := by
  unfold insF
  induction l with
  | nil => exact ⟨Nat.zero_le _, Nat.le_refl _⟩
  | cons q l ih =>
    rw [insL]
    split
    · rw [List.length_cons, List.length_cons]; omega
    · split
      · simp
      · simp
theorem insF_fl : ∀ (r l : List PT), l.length ≤ (r.foldl insF l).length
  | [], l => Nat.le_refl _
  | p :: r, l => by
    have h1 := (insF_le l p).1
    have h2 := insF_fl r (insF l p)
    rw [List.foldl_cons]; omega
def mMerge (L : List SER) (i : Int32) : Int32 × List SER := match ser L i with
  | none => (-1, L)
  | some S => if 0 < tornN S.2.2.2.1 then (-4, L) else if 300 < mN7 S then (-5, L) else (nI (mMg S).length, L.set i.toNatClampNeg (setBL S (rb (mMg S), [])))
def csX7_merge : CS := (cs_c 0 103 2 7 sp_X7_isSeries (cs_c 0 187 2 7 sp_X7_tornBlocks (cs_c 0 111 3 7 sp_X7_spot (cs_c 0 179 3 7 sp_X7_isLate (cs_c 0 190 2 7 sp_X7_reblock cs_0)))))
theorem csoX7_merge : ∀ op x na cl sp, csX7_merge op x = some (na, cl, sp) → CallOK 7 4 94 op x na cl sp := (cs_c_ok (caX7_merge_103 okX7_isSeries) (cs_c_ok (caX7_merge_187 okX7_tornBlocks) (cs_c_ok (caX7_merge_111 okX7_spot) (cs_c_ok (caX7_merge_179 okX7_isLate) (cs_c_ok (caX7_merge_190 okX7_reblock) cs_0_ok)))))
theorem xcX7_merge : (∀ (Q : QT) (G : GT) (pc : Nat) (L : LV) (a0 a1 : Value) (r : List Value) (M : HM) (k n : Nat), ex_i 7 7 1 false csX7_merge Q G (.invokevirtual 103) pc L (a1 :: a0 :: r) M k n = (e_rm r ∧ e_rc M 7 [a0, a1] ∧ sp_X7_isSeries [a0, a1] M k n (fun v M' k' n' => G (pc + 3) L (v.toList ++ r) M' k' n'))) ∧ (∀ (Q : QT) (G : GT) (pc : Nat) (L : LV) (a0 a1 : Value) (r : List Value) (M : HM) (k n : Nat), ex_i 7 7 1 false csX7_merge Q G (.invokevirtual 187) pc L (a1 :: a0 :: r) M k n = (e_rm r ∧ e_rc M 7 [a0, a1] ∧ sp_X7_tornBlocks [a0, a1] M k n (fun v M' k' n' => G (pc + 3) L (v.toList ++ r) M' k' n'))) ∧ (∀ (Q : QT) (G : GT) (pc : Nat) (L : LV) (a0 a1 a2 : Value) (r : List Value) (M : HM) (k n : Nat), ex_i 7 7 1 false csX7_merge Q G (.invokevirtual 111) pc L (a2 :: a1 :: a0 :: r) M k n = (e_rm r ∧ e_rc M 7 [a0, a1, a2] ∧ sp_X7_spot [a0, a1, a2] M k n (fun v M' k' n' => G (pc + 3) L (v.toList ++ r) M' k' n'))) ∧ (∀ (Q : QT) (G : GT) (pc : Nat) (L : LV) (a0 a1 a2 : Value) (r : List Value) (M : HM) (k n : Nat), ex_i 7 7 1 false csX7_merge Q G (.invokevirtual 179) pc L (a2 :: a1 :: a0 :: r) M k n = (e_rm r ∧ e_rc M 7 [a0, a1, a2] ∧ sp_X7_isLate [a0, a1, a2] M k n (fun v M' k' n' => G (pc + 3) L (v.toList ++ r) M' k' n'))) ∧ (∀ (Q : QT) (G : GT) (pc : Nat) (L : LV) (a0 a1 : Value) (r : List Value) (M : HM) (k n : Nat), ex_i 7 7 1 false csX7_merge Q G (.invokevirtual 190) pc L (a1 :: a0 :: r) M k n = (e_rm r ∧ e_rc M 7 [a0, a1] ∧ sp_X7_reblock [a0, a1] M k n (fun v M' k' n' => G (pc + 3) L (v.toList ++ r) M' k' n'))) := ⟨(fun _ _ _ _ _ _ _ _ _ _ => xv0_2 rfl), (fun _ _ _ _ _ _ _ _ _ _ => xv0_2 rfl), (fun _ _ _ _ _ _ _ _ _ _ _ => xv0_3 rfl), (fun _ _ _ _ _ _ _ _ _ _ _ => xv0_3 rfl), (fun _ _ _ _ _ _ _ _ _ _ => xv0_2 rfl)⟩
def sp_X7_merge : SP := fun as M k n Q => match as with
  | [.ref m, .int i] => ∃ A O L z, MRp A O M m L z ∧ (∀ S, S ∈ L → tornN S.2.2.2.1 = 0 → (mMg S).length = mN7 S ∧ cnt (fun p => hasT S.2.2.2.2 p.1) (mpts S.2.2.2.1) ≤ (mpts S.2.2.2.1).length + S.2.2.2.2.length) ∧ ∀ U, MRp A O U m (mMerge L i).2 z → Fr (Ss m) O O M U → Q (some (.int (mMerge L i).1)) U k n
  | _ => False
set_option maxHeartbeats 800000 in
set_option maxRecDepth 20000 in
theorem okX7_merge : OkX7_merge sp_X7_merge := by
  refine inX7_merge csoX7_merge ?_
  intro as M k n Q hsp
  unfold sp_X7_merge at hsp
  split at hsp
  rotate_left
  · exact hsp.elim
  rename_i m i
  obtain ⟨A, O, L, z, hR, hpr, hq⟩ := hsp
  have hM := hR.1
  have hO := hR.2.1
  have h0 := hM.1
  refine ⟨0, 0, Nat.zero_le _, Nat.zero_le _, Nat.le_of_ble_eq_true rfl, fun G hG => ?_⟩
  unfold mMerge at hq
  rcases hR.at_ i with ⟨h1, h2⟩ | ⟨s, S, h1, rfl, h3, h4, hs, h6⟩
  · rw [h1] at hq
    refine e_g2 hG [] 40 ?_
    simp only [e_wp_s, Option.getD_some, Option.isSome_some, Option.isSome_none, xis0, xis1, xis2, xis3, xis4, e_ks, lk_k, lk_c, List.lookup_nil, gt_c, vi_i, k1_n, k1_c, k2_n, k2_c, ar_n, ar_c, pk_n, pk_c, rm_0, rm_1, rm_2, rm_3, rm_4, rm_5, rc_9, rcs, fvs, rf_s, rf_n, isI_i, isL_l, isR_r, isR_n, isR_q, ct_i, ct_l, ct_r, ct_n, ct_q, tFs, tCs, tKs, tJs, tSs, e_nf, lgs, ↓reduceIte, true_and, and_true, false_and, and_false, or_true, true_or, false_or, or_false, Nat.reduceAdd, Nat.reduceEqDiff, Nat.reduceDiv, Nat.reduceLT, Nat.reduceLeDiff, Nat.zero_add, reduceCtorEq, Bool.false_eq_true, Option.toList_some, Option.toList_none, List.cons_append, List.nil_append, not_true_eq_false, not_false_eq_true, Nat.sub_zero, dsX7_merge_0, dsX7_merge_1, jsX7_merge, xcX7_merge, h0, h2, ↓sp_X7_isSeries]
    exact hq M hR Fr.rf
  · simp only [h1, nI_clamp (show s < 2 ^ 31 by omega)] at hq
    have sc : (nI s).toNatClampNeg = s := nI_clamp (by omega)
    have sv : vp_in (nI s) 8 := vp_in_nI hs (by decide)
    obtain ⟨hH, hP, hB, hT, hSp⟩ := id h4
    have n227_228 : ¬ A 227 = A 228 := hO.ne (f := 227) (g := 228) rfl rfl (by decide)
    have n227_229 : ¬ A 227 = A 229 := hO.ne (f := 227) (g := 229) rfl rfl (by decide)
    have n227_230 : ¬ A 227 = A 230 := hO.ne (f := 227) (g := 230) rfl rfl (by decide)
    have n227_231 : ¬ A 227 = A 231 := hO.ne (f := 227) (g := 231) rfl rfl (by decide)
    have n227_232 : ¬ A 227 = A 232 := hO.ne (f := 227) (g := 232) rfl rfl (by decide)
    have n227_233 : ¬ A 227 = A 233 := hO.ne (f := 227) (g := 233) rfl rfl (by decide)
    have n227_234 : ¬ A 227 = A 234 := hO.ne (f := 227) (g := 234) rfl rfl (by decide)
    have n227_235 : ¬ A 227 = A 235 := hO.ne (f := 227) (g := 235) rfl rfl (by decide)
    have n227_236 : ¬ A 227 = A 236 := hO.ne (f := 227) (g := 236) rfl rfl (by decide)
    have n228_227 : ¬ A 228 = A 227 := hO.ne (f := 228) (g := 227) rfl rfl (by decide)
    have n228_229 : ¬ A 228 = A 229 := hO.ne (f := 228) (g := 229) rfl rfl (by decide)
    have n228_230 : ¬ A 228 = A 230 := hO.ne (f := 228) (g := 230) rfl rfl (by decide)
    have n228_231 : ¬ A 228 = A 231 := hO.ne (f := 228) (g := 231) rfl rfl (by decide)
    have n228_232 : ¬ A 228 = A 232 := hO.ne (f := 228) (g := 232) rfl rfl (by decide)
    have n228_233 : ¬ A 228 = A 233 := hO.ne (f := 228) (g := 233) rfl rfl (by decide)
    have n228_234 : ¬ A 228 = A 234 := hO.ne (f := 228) (g := 234) rfl rfl (by decide)
    have n228_235 : ¬ A 228 = A 235 := hO.ne (f := 228) (g := 235) rfl rfl (by decide)
    have n228_236 : ¬ A 228 = A 236 := hO.ne (f := 228) (g := 236) rfl rfl (by decide)
    have n229_227 : ¬ A 229 = A 227 := hO.ne (f := 229) (g := 227) rfl rfl (by decide)
    have n229_228 : ¬ A 229 = A 228 := hO.ne (f := 229) (g := 228) rfl rfl (by decide)
    have n229_230 : ¬ A 229 = A 230 := hO.ne (f := 229) (g := 230) rfl rfl (by decide)
    have n229_231 : ¬ A 229 = A 231 := hO.ne (f := 229) (g := 231) rfl rfl (by decide)
    have n229_232 : ¬ A 229 = A 232 := hO.ne (f := 229) (g := 232) rfl rfl (by decide)
    have n229_233 : ¬ A 229 = A 233 := hO.ne (f := 229) (g := 233) rfl rfl (by decide)
    have n229_234 : ¬ A 229 = A 234 := hO.ne (f := 229) (g := 234) rfl rfl (by decide)
    have n229_235 : ¬ A 229 = A 235 := hO.ne (f := 229) (g := 235) rfl rfl (by decide)
    have n229_236 : ¬ A 229 = A 236 := hO.ne (f := 229) (g := 236) rfl rfl (by decide)
    have n230_227 : ¬ A 230 = A 227 := hO.ne (f := 230) (g := 227) rfl rfl (by decide)
    have n230_228 : ¬ A 230 = A 228 := hO.ne (f := 230) (g := 228) rfl rfl (by decide)
    have n230_229 : ¬ A 230 = A 229 := hO.ne (f := 230) (g := 229) rfl rfl (by decide)
    have n230_231 : ¬ A 230 = A 231 := hO.ne (f := 230) (g := 231) rfl rfl (by decide)
    have n230_232 : ¬ A 230 = A 232 := hO.ne (f := 230) (g := 232) rfl rfl (by decide)
    have n230_233 : ¬ A 230 = A 233 := hO.ne (f := 230) (g := 233) rfl rfl (by decide)
    have n230_234 : ¬ A 230 = A 234 := hO.ne (f := 230) (g := 234) rfl rfl (by decide)
    have n230_235 : ¬ A 230 = A 235 := hO.ne (f := 230) (g := 235) rfl rfl (by decide)
    have n230_236 : ¬ A 230 = A 236 := hO.ne (f := 230) (g := 236) rfl rfl (by decide)
    have n231_227 : ¬ A 231 = A 227 := hO.ne (f := 231) (g := 227) rfl rfl (by decide)
    have n231_228 : ¬ A 231 = A 228 := hO.ne (f := 231) (g := 228) rfl rfl (by decide)
    have n231_229 : ¬ A 231 = A 229 := hO.ne (f := 231) (g := 229) rfl rfl (by decide)
    have n231_230 : ¬ A 231 = A 230 := hO.ne (f := 231) (g := 230) rfl rfl (by decide)
    have n231_232 : ¬ A 231 = A 232 := hO.ne (f := 231) (g := 232) rfl rfl (by decide)
    have n231_233 : ¬ A 231 = A 233 := hO.ne (f := 231) (g := 233) rfl rfl (by decide)
    have n231_234 : ¬ A 231 = A 234 := hO.ne (f := 231) (g := 234) rfl rfl (by decide)
    have n231_235 : ¬ A 231 = A 235 := hO.ne (f := 231) (g := 235) rfl rfl (by decide)
    have n231_236 : ¬ A 231 = A 236 := hO.ne (f := 231) (g := 236) rfl rfl (by decide)
    have n232_227 : ¬ A 232 = A 227 := hO.ne (f := 232) (g := 227) rfl rfl (by decide)
    have n232_228 : ¬ A 232 = A 228 := hO.ne (f := 232) (g := 228) rfl rfl (by decide)
    have n232_229 : ¬ A 232 = A 229 := hO.ne (f := 232) (g := 229) rfl rfl (by decide)
    have n232_230 : ¬ A 232 = A 230 := hO.ne (f := 232) (g := 230) rfl rfl (by decide)
    have n232_231 : ¬ A 232 = A 231 := hO.ne (f := 232) (g := 231) rfl rfl (by decide)
    have n232_233 : ¬ A 232 = A 233 := hO.ne (f := 232) (g := 233) rfl rfl (by decide)
    have n232_234 : ¬ A 232 = A 234 := hO.ne (f := 232) (g := 234) rfl rfl (by decide)
    have n232_235 : ¬ A 232 = A 235 := hO.ne (f := 232) (g := 235) rfl rfl (by decide)
    have n232_236 : ¬ A 232 = A 236 := hO.ne (f := 232) (g := 236) rfl rfl (by decide)
    have n233_227 : ¬ A 233 = A 227 := hO.ne (f := 233) (g := 227) rfl rfl (by decide)
    have n233_228 : ¬ A 233 = A 228 := hO.ne (f := 233) (g := 228) rfl rfl (by decide)
    have n233_229 : ¬ A 233 = A 229 := hO.ne (f := 233) (g := 229) rfl rfl (by decide)
    have n233_230 : ¬ A 233 = A 230 := hO.ne (f := 233) (g := 230) rfl rfl (by decide)
    have n233_231 : ¬ A 233 = A 231 := hO.ne (f := 233) (g := 231) rfl rfl (by decide)
    have n233_232 : ¬ A 233 = A 232 := hO.ne (f := 233) (g := 232) rfl rfl (by decide)
    have n233_234 : ¬ A 233 = A 234 := hO.ne (f := 233) (g := 234) rfl rfl (by decide)
    have n233_235 : ¬ A 233 = A 235 := hO.ne (f := 233) (g := 235) rfl rfl (by decide)
    have n233_236 : ¬ A 233 = A 236 := hO.ne (f := 233) (g := 236) rfl rfl (by decide)
    have n234_227 : ¬ A 234 = A 227 := hO.ne (f := 234) (g := 227) rfl rfl (by decide)
    have n234_228 : ¬ A 234 = A 228 := hO.ne (f := 234) (g := 228) rfl rfl (by decide)
    have n234_229 : ¬ A 234 = A 229 := hO.ne (f := 234) (g := 229) rfl rfl (by decide)
    have n234_230 : ¬ A 234 = A 230 := hO.ne (f := 234) (g := 230) rfl rfl (by decide)
    have n234_231 : ¬ A 234 = A 231 := hO.ne (f := 234) (g := 231) rfl rfl (by decide)
    have n234_232 : ¬ A 234 = A 232 := hO.ne (f := 234) (g := 232) rfl rfl (by decide)
    have n234_233 : ¬ A 234 = A 233 := hO.ne (f := 234) (g := 233) rfl rfl (by decide)
    have n234_235 : ¬ A 234 = A 235 := hO.ne (f := 234) (g := 235) rfl rfl (by decide)
    have n234_236 : ¬ A 234 = A 236 := hO.ne (f := 234) (g := 236) rfl rfl (by decide)
    have n235_227 : ¬ A 235 = A 227 := hO.ne (f := 235) (g := 227) rfl rfl (by decide)
    have n235_228 : ¬ A 235 = A 228 := hO.ne (f := 235) (g := 228) rfl rfl (by decide)
    have n235_229 : ¬ A 235 = A 229 := hO.ne (f := 235) (g := 229) rfl rfl (by decide)
    have n235_230 : ¬ A 235 = A 230 := hO.ne (f := 235) (g := 230) rfl rfl (by decide)
    have n235_231 : ¬ A 235 = A 231 := hO.ne (f := 235) (g := 231) rfl rfl (by decide)
    have n235_232 : ¬ A 235 = A 232 := hO.ne (f := 235) (g := 232) rfl rfl (by decide)
    have n235_233 : ¬ A 235 = A 233 := hO.ne (f := 235) (g := 233) rfl rfl (by decide)
    have n235_234 : ¬ A 235 = A 234 := hO.ne (f := 235) (g := 234) rfl rfl (by decide)
    have n235_236 : ¬ A 235 = A 236 := hO.ne (f := 235) (g := 236) rfl rfl (by decide)
    have n236_227 : ¬ A 236 = A 227 := hO.ne (f := 236) (g := 227) rfl rfl (by decide)
    have n236_228 : ¬ A 236 = A 228 := hO.ne (f := 236) (g := 228) rfl rfl (by decide)
    have n236_229 : ¬ A 236 = A 229 := hO.ne (f := 236) (g := 229) rfl rfl (by decide)
    have n236_230 : ¬ A 236 = A 230 := hO.ne (f := 236) (g := 230) rfl rfl (by decide)
    have n236_231 : ¬ A 236 = A 231 := hO.ne (f := 236) (g := 231) rfl rfl (by decide)
    have n236_232 : ¬ A 236 = A 232 := hO.ne (f := 236) (g := 232) rfl rfl (by decide)
    have n236_233 : ¬ A 236 = A 233 := hO.ne (f := 236) (g := 233) rfl rfl (by decide)
    have n236_234 : ¬ A 236 = A 234 := hO.ne (f := 236) (g := 234) rfl rfl (by decide)
    have n236_235 : ¬ A 236 = A 235 := hO.ne (f := 236) (g := 235) rfl rfl (by decide)
    have p300 := hP.2.1
    have l40 := hT.2.1
    have b300 := hB.2.1
    have htl := tornN_le S.2.2.2.1
    have hpr := hpr S (List.mem_of_getElem? h3)
    refine e_g2 hG [(15, [0, 1])] 60 ?_
    simp only [e_wp_s, Option.getD_some, Option.isSome_some, Option.isSome_none, xis0, xis1, xis2, xis3, xis4, e_ks, lk_k, lk_c, List.lookup_nil, gt_c, vi_i, k1_n, k1_c, k2_n, k2_c, ar_n, ar_c, pk_n, pk_c, rm_0, rm_1, rm_2, rm_3, rm_4, rm_5, rc_9, rcs, fvs, rf_s, rf_n, isI_i, isL_l, isR_r, isR_n, isR_q, ct_i, ct_l, ct_r, ct_n, ct_q, tFs, tCs, tKs, tJs, tSs, e_nf, lgs, ↓reduceIte, true_and, and_true, false_and, and_false, or_true, true_or, false_or, or_false, Nat.reduceAdd, Nat.reduceEqDiff, Nat.reduceDiv, Nat.reduceLT, Nat.reduceLeDiff, Nat.zero_add, reduceCtorEq, Bool.false_eq_true, Option.toList_some, Option.toList_none, List.cons_append, List.nil_append, not_true_eq_false, not_false_eq_true, Nat.sub_zero, dsX7_merge_0, dsX7_merge_1, jsX7_merge, xcX7_merge, h0, h6, i10, ↓sp_X7_isSeries]
    refine ⟨A, s, _, hM, hs, hB, rfl, ?_⟩
    by_cases c1 : 0 < tornN S.2.2.2.1
    · rw [if_pos c1] at hq
      have e1 : (0 : Int32) < nI (tornN S.2.2.2.1) := nI_lt (a := 0) c1 (by omega)
      refine e_g2 hG [] 60 ?_
      simp only [e_wp_s, Option.getD_some, Option.isSome_some, Option.isSome_none, xis0, xis1, xis2, xis3, xis4, e_ks, lk_k, lk_c, List.lookup_nil, gt_c, vi_i, k1_n, k1_c, k2_n, k2_c, ar_n, ar_c, pk_n, pk_c, rm_0, rm_1, rm_2, rm_3, rm_4, rm_5, rc_9, rcs, fvs, rf_s, rf_n, isI_i, isL_l, isR_r, isR_n, isR_q, ct_i, ct_l, ct_r, ct_n, ct_q, tFs, tCs, tKs, tJs, tSs, e_nf, lgs, ↓reduceIte, true_and, and_true, false_and, and_false, or_true, true_or, false_or, or_false, Nat.reduceAdd, Nat.reduceEqDiff, Nat.reduceDiv, Nat.reduceLT, Nat.reduceLeDiff, Nat.zero_add, reduceCtorEq, Bool.false_eq_true, Option.toList_some, Option.toList_none, List.cons_append, List.nil_append, not_true_eq_false, not_false_eq_true, Nat.sub_zero, dsX7_merge_0, dsX7_merge_1, jsX7_merge, xcX7_merge, e1]
      exact hq M hR Fr.rf
    rw [if_neg c1] at hq
    have e1 : ¬ (0 : Int32) < nI (tornN S.2.2.2.1) := fun q => c1 ((nI_ltI (a := 0) (by decide) (by omega)).mp q)
    obtain ⟨hlen, hcnt⟩ := hpr (by omega)
    obtain ⟨r227, k227, l227⟩ : mR M 227 m = some (A 227) ∧ mK M (A 227) = 9 ∧ mN M (A 227) = 8 := hM.2 227 rfl
    obtain ⟨r229, k229, l229⟩ : mR M 229 m = some (A 229) ∧ mK M (A 229) = 9 ∧ mN M (A 229) = 8 := hM.2 229 rfl
    obtain ⟨r231, k231, l231⟩ : mR M 231 m = some (A 231) ∧ mK M (A 231) = 9 ∧ mN M (A 231) = 2560 := hM.2 231 rfl
    have pl := hP.1
    have ll := hT.1
    -- the merging
    have mrg : ¬ 300 < mN7 S → G 90 [(0, .ref m), (1, .int (nI s))] [] M 0 0 := by
      intro c2
      rw [if_neg c2] at hq
      have hml : (mMg S).length ≤ 300 := by omega
      unfold mMg at hml hq
      generalize hlt : S.2.2.2.2 = lt at *
      generalize hmm : mpts S.2.2.2.1 = mp at *
      have loop : ∀ d j U l, j + d = lt.length → MC O A m [227, 231, 234] M U → MI A s M U → mP A U s l → (lt.drop j).foldl insF l = lt.foldl insF mp → G 92 [(0, .ref m), (1, .int (nI s)), (3, .int (nI j))] [] U 0 0 := by
        intro d
        induction d with
        | zero =>
          intro j U l hj hC hI hPU he
          have hMU := hC.ms hM
          have g0 := hMU.1
          obtain ⟨ru229, ku229, lu229⟩ : mR U 229 m = some (A 229) ∧ mK U (A 229) = 9 ∧ mN U (A 229) = 8 := hMU.2 229 rfl
          have hTU := hC.mT (s := s) (by decide) hT
          have ul := hTU.1
          have e2 : ¬ nI j < nI lt.length := nI_nlt (by omega) (by omega)
          rw [List.drop_eq_nil_of_le (by omega)] at he
          have he : l = lt.foldl insF mp := he
          have hC2 : MC O A m [227, 229, 231, 234] M (tI U (A 229) s 0) := MC.tI (hC.mono (fun f hf => by revert hf; revert f; decide)) hO (by decide) rfl
          have hI2 : MI A s M (tI U (A 229) s 0) := MI.tI hI hO rfl (Or.inl (Nat.div_one s))
          have hP2 : mP A (tI U (A 229) s 0) s l := by
            have hCx : MC O A m [229] U (tI U (A 229) s 0) := MC.tI MC.rf hO (by decide) rfl
            exact hCx.mP (by decide) hPU
          have hT2 : mT A (tI U (A 229) s 0) s [] := ⟨by simp only [haI, and_self, if_true]; rfl, Nat.zero_le _, rfl⟩
          have hMV := hC2.ms hM
          refine e_g2 hG [(313, [0, 1])] 60 ?_
          simp only [e_wp_s, Option.getD_some, Option.isSome_some, Option.isSome_none, xis0, xis1, xis2, xis3, xis4, e_ks, lk_k, lk_c, List.lookup_nil, gt_c, vi_i, k1_n, k1_c, k2_n, k2_c, ar_n, ar_c, pk_n, pk_c, rm_0, rm_1, rm_2, rm_3, rm_4, rm_5, rc_9, rcs, fvs, rf_s, rf_n, isI_i, isL_l, isR_r, isR_n, isR_q, ct_i, ct_l, ct_r, ct_n, ct_q, tFs, tCs, tKs, tJs, tSs, e_nf, lgs, ↓reduceIte, true_and, and_true, false_and, and_false, or_true, true_or, false_or, or_false, Nat.reduceAdd, Nat.reduceEqDiff, Nat.reduceDiv, Nat.reduceLT, Nat.reduceLeDiff, Nat.zero_add, reduceCtorEq, Bool.false_eq_true, Option.toList_some, Option.toList_none, List.cons_append, List.nil_append, not_true_eq_false, not_false_eq_true, Nat.sub_zero, dsX7_merge_0, dsX7_merge_1, jsX7_merge, xcX7_merge, g0, ru229, ku229, lu229, sc, sv, ul, e2]
          generalize tI U (A 229) s 0 = V at *
          have y0 := hMV.1
          refine e_g2 hG [(318, [0, 1])] 60 ?_
          simp only [e_wp_s, Option.getD_some, Option.isSome_some, Option.isSome_none, xis0, xis1, xis2, xis3, xis4, e_ks, lk_k, lk_c, List.lookup_nil, gt_c, vi_i, k1_n, k1_c, k2_n, k2_c, ar_n, ar_c, pk_n, pk_c, rm_0, rm_1, rm_2, rm_3, rm_4, rm_5, rc_9, rcs, fvs, rf_s, rf_n, isI_i, isL_l, isR_r, isR_n, isR_q, ct_i, ct_l, ct_r, ct_n, ct_q, tFs, tCs, tKs, tJs, tSs, e_nf, lgs, ↓reduceIte, true_and, and_true, false_and, and_false, or_true, true_or, false_or, or_false, Nat.reduceAdd, Nat.reduceEqDiff, Nat.reduceDiv, Nat.reduceLT, Nat.reduceLeDiff, Nat.zero_add, reduceCtorEq, Bool.false_eq_true, Option.toList_some, Option.toList_none, List.cons_append, List.nil_append, not_true_eq_false, not_false_eq_true, Nat.sub_zero, dsX7_merge_0, dsX7_merge_1, jsX7_merge, xcX7_merge, y0]
          refine ⟨O, A, s, l, hMV, hO, hs, hP2, rfl, fun W hCW hIW hPW hBW => ?_⟩
          have hMW := hCW.ms hMV
          have w0 := hMW.1
          obtain ⟨rw227, kw227, lw227⟩ : mR W 227 m = some (A 227) ∧ mK W (A 227) = 9 ∧ mN W (A 227) = 8 := hMW.2 227 rfl
          have wl := hPW.1
          have hCx : MC O A m [227, 228, 229, 231, 232, 234, 236] M W := (hC2.mono (fun f hf => by revert hf; revert f; decide)).tr (hCW.mono (fun f hf => by revert hf; revert f; decide))
          have hIx := hI2.tr hIW
          refine e_g2 hG [] 60 ?_
          simp only [e_wp_s, Option.getD_some, Option.isSome_some, Option.isSome_none, xis0, xis1, xis2, xis3, xis4, e_ks, lk_k, lk_c, List.lookup_nil, gt_c, vi_i, k1_n, k1_c, k2_n, k2_c, ar_n, ar_c, pk_n, pk_c, rm_0, rm_1, rm_2, rm_3, rm_4, rm_5, rc_9, rcs, fvs, rf_s, rf_n, isI_i, isL_l, isR_r, isR_n, isR_q, ct_i, ct_l, ct_r, ct_n, ct_q, tFs, tCs, tKs, tJs, tSs, e_nf, lgs, ↓reduceIte, true_and, and_true, false_and, and_false, or_true, true_or, false_or, or_false, Nat.reduceAdd, Nat.reduceEqDiff, Nat.reduceDiv, Nat.reduceLT, Nat.reduceLeDiff, Nat.zero_add, reduceCtorEq, Bool.false_eq_true, Option.toList_some, Option.toList_none, List.cons_append, List.nil_append, not_true_eq_false, not_false_eq_true, Nat.sub_zero, dsX7_merge_0, dsX7_merge_1, jsX7_merge, xcX7_merge, w0, rw227, kw227, lw227, sc, sv, wl]
          have hrbm : mpts (rb l) = l := by
            have key : ∀ (r : List PT) (bk : List BLK), mpts (r.foldl apM bk) = mpts bk ++ r := by
              intro r
              induction r with
              | nil => intro bk; rw [List.append_nil]; rfl
              | cons p r ih => intro bk; rw [List.foldl_cons, ih, apM_pts, List.append_assoc]; rfl
            have := key l []
            exact this
          rw [← he] at hq
          refine hq W (hR.mut h3 hCx hIx (by decide) ⟨hCx.mH (by decide) hH, ?_, hBW, hCW.mT (by decide) hT2, hCx.mSp (fun f h1 h2 => by intro hf; simp at hf; omega) (by decide) hSp⟩) hCx.2.2.2.1
          show mP A W s (mpts (rb l))
          rw [hrbm]; exact hPW
        | succ d ih =>
          intro j U l hj hC hI hPU he
          have hMU := hC.ms hM
          have g0 := hMU.1
          obtain ⟨ru227, ku227, lu227⟩ : mR U 227 m = some (A 227) ∧ mK U (A 227) = 9 ∧ mN U (A 227) = 8 := hMU.2 227 rfl
          obtain ⟨ru229, ku229, lu229⟩ : mR U 229 m = some (A 229) ∧ mK U (A 229) = 9 ∧ mN U (A 229) = 8 := hMU.2 229 rfl
          obtain ⟨ru231, ku231, lu231⟩ : mR U 231 m = some (A 231) ∧ mK U (A 231) = 9 ∧ mN U (A 231) = 2560 := hMU.2 231 rfl
          obtain ⟨ru233, ku233, lu233⟩ : mR U 233 m = some (A 233) ∧ mK U (A 233) = 9 ∧ mN U (A 233) = 400 := hMU.2 233 rfl
          obtain ⟨ru234, ku234, lu234⟩ : mR U 234 m = some (A 234) ∧ mK U (A 234) = 10 ∧ mN U (A 234) = 2560 := hMU.2 234 rfl
          obtain ⟨ru235, ku235, lu235⟩ : mR U 235 m = some (A 235) ∧ mK U (A 235) = 10 ∧ mN U (A 235) = 400 := hMU.2 235 rfl
          have hTU := hC.mT (s := s) (by decide) hT
          have ul := hTU.1
          have upl := hPU.1
          have e2 : nI j < nI lt.length := nI_lt (by omega) (by omega)
          obtain ⟨p, hp⟩ : ∃ p, lt[j]? = some p := ⟨_, List.getElem?_eq_getElem (by omega)⟩
          obtain ⟨w1, w2, w3, w4⟩ := mT_at hTU hp
          have i1 : (nI (50 * s + j)).toNatClampNeg = 50 * s + j := nI_clamp (by omega)
          have i2 : vp_in (nI (50 * s + j)) 400 := vp_in_nI (by omega) (by decide)
          rw [drop_at hp, List.foldl_cons] at he
          have hfl := insF_fl (lt.drop (j + 1)) (insF l p)
          rw [he] at hfl
          have hl3 := hPU.2.1
          have hle := lbl_le p.1 l
          -- the point is put in
          have fin : ∀ V, MC O A m [227, 231, 234] U V → MI A s U V → aI V (A 227) s = nI (insF l p).length → (∀ q y, q ≠ lbl p.1 l → (insF l p)[q]? = some y → aI V (A 231) (320 * s + q) = y.1 ∧ aL V (A 234) (320 * s + q) = y.2) → (insF l p)[lbl p.1 l]? = some p → G 263 [(0, .ref m), (1, .int (nI s)), (3, .int (nI j)), (4, .int p.1), (5, .int (nI (lbl p.1 l)))] [] V 0 0 := by
            intro V hCV hIV v7 vr vp
            have hMV := hCV.ms hMU
            have y0 := hMV.1
            obtain ⟨rv231, kv231, lv231⟩ : mR V 231 m = some (A 231) ∧ mK V (A 231) = 9 ∧ mN V (A 231) = 2560 := hMV.2 231 rfl
            obtain ⟨rv234, kv234, lv234⟩ : mR V 234 m = some (A 234) ∧ mK V (A 234) = 10 ∧ mN V (A 234) = 2560 := hMV.2 234 rfl
            obtain ⟨rv235, kv235, lv235⟩ : mR V 235 m = some (A 235) ∧ mK V (A 235) = 10 ∧ mN V (A 235) = 400 := hMV.2 235 rfl
            have hTV := hCV.mT (s := s) (by decide) hTU
            obtain ⟨x1, x2, x3, x4⟩ := mT_at hTV hp
            have hil := (List.getElem?_eq_some_iff.mp vp).1
            have j1 : (nI (320 * s + lbl p.1 l)).toNatClampNeg = 320 * s + lbl p.1 l := nI_clamp (by omega)
            have j2 : vp_in (nI (320 * s + lbl p.1 l)) 2560 := vp_in_nI (by omega) (by decide)
            refine e_g2 hG [(92, [0, 1, 3])] 60 ?_
            simp only [e_wp_s, Option.getD_some, Option.isSome_some, Option.isSome_none, xis0, xis1, xis2, xis3, xis4, e_ks, lk_k, lk_c, List.lookup_nil, gt_c, vi_i, k1_n, k1_c, k2_n, k2_c, ar_n, ar_c, pk_n, pk_c, rm_0, rm_1, rm_2, rm_3, rm_4, rm_5, rc_9, rcs, fvs, rf_s, rf_n, isI_i, isL_l, isR_r, isR_n, isR_q, ct_i, ct_l, ct_r, ct_n, ct_q, tFs, tCs, tKs, tJs, tSs, e_nf, lgs, ↓reduceIte, true_and, and_true, false_and, and_false, or_true, true_or, false_or, or_false, Nat.reduceAdd, Nat.reduceEqDiff, Nat.reduceDiv, Nat.reduceLT, Nat.reduceLeDiff, Nat.zero_add, reduceCtorEq, Bool.false_eq_true, Option.toList_some, Option.toList_none, List.cons_append, List.nil_append, not_true_eq_false, not_false_eq_true, Nat.sub_zero, dsX7_merge_0, dsX7_merge_1, jsX7_merge, xcX7_merge, y0, rv231, kv231, lv231, rv234, kv234, lv234, rv235, kv235, lv235, n231_234, n231_235, n234_231, n234_235, n235_231, n235_234, i1, i2, j1, j2, x2, l50, nI_1, ↓sp_X7_spot, spt, hmK, hmN, hmI, hmL, hmR, haI, haL, haR]
            refine ih (j + 1) _ (insF l p) (by omega) (hC.tr (MC.tL (MC.tI hCV hO (by decide) rfl) hO (by decide) rfl)) (hI.tr (MI.tL (MI.tI hIV hO rfl (Or.inl (dq 320 s _ (by omega)))) hO rfl (Or.inl (dq 320 s _ (by omega))))) ⟨?_, by omega, ?_⟩ he
            · simp only [haI, n227_231, false_and, if_false]; exact v7
            · refine rdf_eq (fun q y hy => ?_)
              simp only [haI, haL, true_and]
              by_cases c : q = lbl p.1 l
              · rw [c, vp] at hy
                cases hy
                rw [if_pos (by rw [c]), if_pos (by rw [c])]
              · obtain ⟨r1, r2⟩ := vr q y c hy
                rw [if_neg (by omega), if_neg (by omega), r1, r2]
          have shf : ∀ e V, lbl p.1 l + e ≤ l.length → (∀ q, l[lbl p.1 l]? = some q → ¬ q.1 = p.1) → MC O A m [227, 231, 234] U V → MI A s U V → aI V (A 227) = aI U (A 227) → (∀ q, aI V (A 231) q = if 320 * s + (lbl p.1 l + e) < q ∧ q ≤ 320 * s + l.length then aI U (A 231) (q - 1) else aI U (A 231) q) → (∀ q, aL V (A 234) q = if 320 * s + (lbl p.1 l + e) < q ∧ q ≤ 320 * s + l.length then aL U (A 234) (q - 1) else aL U (A 234) q) → G 188 [(0, .ref m), (1, .int (nI s)), (3, .int (nI j)), (4, .int p.1), (5, .int (nI (lbl p.1 l))), (6, .int (nI (lbl p.1 l + e)))] [] V 0 0 := by
            intro e
            induction e with
            | zero =>
              intro V hd hno hCV hIV v7 vI vL
              have hMV := hCV.ms hMU
              have y0 := hMV.1
              obtain ⟨rv227, kv227, lv227⟩ : mR V 227 m = some (A 227) ∧ mK V (A 227) = 9 ∧ mN V (A 227) = 8 := hMV.2 227 rfl
              have vpl : aI V (A 227) s = nI l.length := by rw [v7]; exact upl
              have e8 : ¬ nI (lbl p.1 l) < nI (lbl p.1 l) := nI_nlt (Nat.le_refl _) (by omega)
              have hins : insF l p = l.take (lbl p.1 l) ++ p :: l.drop (lbl p.1 l) := insL_ins p l hno
              have hil : (insF l p).length = l.length + 1 := by rw [hins, List.length_append, List.length_cons, List.length_take, List.length_drop]; omega
              refine e_g2 hG [(263, [0, 1, 3, 4, 5])] 60 ?_
              simp only [e_wp_s, Option.getD_some, Option.isSome_some, Option.isSome_none, xis0, xis1, xis2, xis3, xis4, e_ks, lk_k, lk_c, List.lookup_nil, gt_c, vi_i, k1_n, k1_c, k2_n, k2_c, ar_n, ar_c, pk_n, pk_c, rm_0, rm_1, rm_2, rm_3, rm_4, rm_5, rc_9, rcs, fvs, rf_s, rf_n, isI_i, isL_l, isR_r, isR_n, isR_q, ct_i, ct_l, ct_r, ct_n, ct_q, tFs, tCs, tKs, tJs, tSs, e_nf, lgs, ↓reduceIte, true_and, and_true, false_and, and_false, or_true, true_or, false_or, or_false, Nat.reduceAdd, Nat.reduceEqDiff, Nat.reduceDiv, Nat.reduceLT, Nat.reduceLeDiff, Nat.zero_add, reduceCtorEq, Bool.false_eq_true, Option.toList_some, Option.toList_none, List.cons_append, List.nil_append, not_true_eq_false, not_false_eq_true, Nat.sub_zero, dsX7_merge_0, dsX7_merge_1, jsX7_merge, xcX7_merge, y0, rv227, kv227, lv227, sc, sv, vpl, e8, Nat.add_zero, nI_1]
              refine fin _ (MC.tI hCV hO (by decide) rfl) (MI.tI hIV hO rfl (Or.inl (Nat.div_one s))) ?_ (fun q y hq hy => ?_) ?_
              · simp only [haI, and_self, if_true]; rw [hil]
              · rw [hins, get_ins hle] at hy
                simp only [haI, haL, n231_227, false_and, if_false]
                rw [vI, vL]
                by_cases c : q < lbl p.1 l
                · rw [if_pos c] at hy
                  obtain ⟨r1, r2, -⟩ := mP_at hPU hy
                  rw [if_neg (by omega), if_neg (by omega), r1, r2]; exact ⟨rfl, rfl⟩
                · rw [if_neg c, if_neg hq] at hy
                  obtain ⟨r1, r2, r3, -⟩ := mP_at hPU hy
                  rw [if_pos (by omega), if_pos (by omega), show 320 * s + q - 1 = 320 * s + (q - 1) by omega, r1, r2]; exact ⟨rfl, rfl⟩
              · rw [hins, get_ins hle, if_neg (by omega), if_pos rfl]
            | succ e ihe =>
              intro V hd hno hCV hIV v7 vI vL
              have hMV := hCV.ms hMU
              have y0 := hMV.1
              obtain ⟨rv231, kv231, lv231⟩ : mR V 231 m = some (A 231) ∧ mK V (A 231) = 9 ∧ mN V (A 231) = 2560 := hMV.2 231 rfl
              obtain ⟨rv234, kv234, lv234⟩ : mR V 234 m = some (A 234) ∧ mK V (A 234) = 10 ∧ mN V (A 234) = 2560 := hMV.2 234 rfl
              have a1 : nI (lbl p.1 l) < nI (lbl p.1 l + (e + 1)) := nI_lt (by omega) (by omega)
              have a2 : vp_in (nI (320 * s + (lbl p.1 l + (e + 1)))) 2560 := vp_in_nI (by omega) (by decide)
              have a3 : (nI (320 * s + (lbl p.1 l + (e + 1)))).toNatClampNeg = 320 * s + (lbl p.1 l + (e + 1)) := nI_clamp (by omega)
              have a4 : nI (lbl p.1 l + (e + 1)) - 1 = nI (lbl p.1 l + e) := nI_pred (lbl p.1 l + e)
              have a5 : vp_in (nI (320 * s + (lbl p.1 l + e))) 2560 := vp_in_nI (by omega) (by decide)
              have a6 : (nI (320 * s + (lbl p.1 l + e))).toNatClampNeg = 320 * s + (lbl p.1 l + e) := nI_clamp (by omega)
              have a7 : nI (lbl p.1 l + (e + 1)) + -1 = nI (lbl p.1 l + e) := by rw [nI_m1]; exact a4
              refine e_g2 hG [(188, [0, 1, 3, 4, 5, 6])] 60 ?_
              simp only [e_wp_s, Option.getD_some, Option.isSome_some, Option.isSome_none, xis0, xis1, xis2, xis3, xis4, e_ks, lk_k, lk_c, List.lookup_nil, gt_c, vi_i, k1_n, k1_c, k2_n, k2_c, ar_n, ar_c, pk_n, pk_c, rm_0, rm_1, rm_2, rm_3, rm_4, rm_5, rc_9, rcs, fvs, rf_s, rf_n, isI_i, isL_l, isR_r, isR_n, isR_q, ct_i, ct_l, ct_r, ct_n, ct_q, tFs, tCs, tKs, tJs, tSs, e_nf, lgs, ↓reduceIte, true_and, and_true, false_and, and_false, or_true, true_or, false_or, or_false, Nat.reduceAdd, Nat.reduceEqDiff, Nat.reduceDiv, Nat.reduceLT, Nat.reduceLeDiff, Nat.zero_add, reduceCtorEq, Bool.false_eq_true, Option.toList_some, Option.toList_none, List.cons_append, List.nil_append, not_true_eq_false, not_false_eq_true, Nat.sub_zero, dsX7_merge_0, dsX7_merge_1, jsX7_merge, xcX7_merge, y0, rv231, kv231, lv231, rv234, kv234, lv234, a1, a2, a3, a4, a5, a6, a7, ↓sp_X7_spot, spt, hmK, hmN, hmI, hmL, hmR, haI, haL, haR]
              refine ihe _ (by omega) hno (MC.tL (MC.tI hCV hO (by decide) rfl) hO (by decide) rfl) (MI.tL (MI.tI hIV hO rfl (Or.inl (dq 320 s _ (by omega)))) hO rfl (Or.inl (dq 320 s _ (by omega)))) ?_ (fun q => ?_) (fun q => ?_)
              · funext q; simp only [haI, n227_231, false_and, if_false]; rw [v7]
              · simp only [haI, true_and]
                by_cases c : q = 320 * s + (lbl p.1 l + (e + 1))
                · rw [if_pos c, vI, if_neg (by omega), if_pos (by omega), c]; congr 1
                · rw [if_neg c, vI]
                  by_cases c2 : 320 * s + (lbl p.1 l + (e + 1)) < q ∧ q ≤ 320 * s + l.length
                  · rw [if_pos c2, if_pos (by omega)]
                  · rw [if_neg c2, if_neg (by omega)]
              · simp only [haL, true_and]
                by_cases c : q = 320 * s + (lbl p.1 l + (e + 1))
                · rw [if_pos c, vL, if_neg (by omega), if_pos (by omega), c]; congr 1
                · rw [if_neg c, vL]
                  by_cases c2 : 320 * s + (lbl p.1 l + (e + 1)) < q ∧ q ≤ 320 * s + l.length
                  · rw [if_pos c2, if_pos (by omega)]
                  · rw [if_neg c2, if_neg (by omega)]
          have goshf : (∀ q, l[lbl p.1 l]? = some q → ¬ q.1 = p.1) → G 180 [(0, .ref m), (1, .int (nI s)), (3, .int (nI j)), (4, .int p.1), (5, .int (nI (lbl p.1 l)))] [] U 0 0 := fun hno => by
            refine e_g2 hG [(188, [0, 1, 3, 4, 5, 6])] 60 ?_
            simp only [e_wp_s, Option.getD_some, Option.isSome_some, Option.isSome_none, xis0, xis1, xis2, xis3, xis4, e_ks, lk_k, lk_c, List.lookup_nil, gt_c, vi_i, k1_n, k1_c, k2_n, k2_c, ar_n, ar_c, pk_n, pk_c, rm_0, rm_1, rm_2, rm_3, rm_4, rm_5, rc_9, rcs, fvs, rf_s, rf_n, isI_i, isL_l, isR_r, isR_n, isR_q, ct_i, ct_l, ct_r, ct_n, ct_q, tFs, tCs, tKs, tJs, tSs, e_nf, lgs, ↓reduceIte, true_and, and_true, false_and, and_false, or_true, true_or, false_or, or_false, Nat.reduceAdd, Nat.reduceEqDiff, Nat.reduceDiv, Nat.reduceLT, Nat.reduceLeDiff, Nat.zero_add, reduceCtorEq, Bool.false_eq_true, Option.toList_some, Option.toList_none, List.cons_append, List.nil_append, not_true_eq_false, not_false_eq_true, Nat.sub_zero, dsX7_merge_0, dsX7_merge_1, jsX7_merge, xcX7_merge, g0, ru227, ku227, lu227, sc, sv, upl]
            have hs2 := shf (l.length - lbl p.1 l) U (by omega) hno MC.rf MI.rf rfl (fun q => by rw [if_neg (by omega)]) (fun q => by rw [if_neg (by omega)])
            rw [show lbl p.1 l + (l.length - lbl p.1 l) = l.length by omega] at hs2
            exact hs2
          have found : G 152 [(0, .ref m), (1, .int (nI s)), (3, .int (nI j)), (4, .int p.1), (5, .int (nI (lbl p.1 l)))] [] U 0 0 := by
            cases hx : l[lbl p.1 l]? with
            | none =>
              have hge := List.getElem?_eq_none_iff.mp hx
              have e5 : nI (lbl p.1 l) = nI l.length := by rw [show lbl p.1 l = l.length by omega]
              have hg := goshf (fun q hq => by rw [hx] at hq; cases hq)
              rw [e5] at hg ⊢
              refine e_g2 hG [(180, [0, 1, 3, 4, 5])] 60 ?_
              simp only [e_wp_s, Option.getD_some, Option.isSome_some, Option.isSome_none, xis0, xis1, xis2, xis3, xis4, e_ks, lk_k, lk_c, List.lookup_nil, gt_c, vi_i, k1_n, k1_c, k2_n, k2_c, ar_n, ar_c, pk_n, pk_c, rm_0, rm_1, rm_2, rm_3, rm_4, rm_5, rc_9, rcs, fvs, rf_s, rf_n, isI_i, isL_l, isR_r, isR_n, isR_q, ct_i, ct_l, ct_r, ct_n, ct_q, tFs, tCs, tKs, tJs, tSs, e_nf, lgs, ↓reduceIte, true_and, and_true, false_and, and_false, or_true, true_or, false_or, or_false, Nat.reduceAdd, Nat.reduceEqDiff, Nat.reduceDiv, Nat.reduceLT, Nat.reduceLeDiff, Nat.zero_add, reduceCtorEq, Bool.false_eq_true, Option.toList_some, Option.toList_none, List.cons_append, List.nil_append, not_true_eq_false, not_false_eq_true, Nat.sub_zero, dsX7_merge_0, dsX7_merge_1, jsX7_merge, xcX7_merge, g0, ru227, ku227, lu227, sc, sv, upl]
              exact hg
            | some q =>
              obtain ⟨r1, r2, r3, r4⟩ := mP_at hPU hx
              have e5 : ¬ nI (lbl p.1 l) = nI l.length := fun z => by
                have := (nI_eq (by omega) (by omega)).mp z
                omega
              have j1 : (nI (320 * s + lbl p.1 l)).toNatClampNeg = 320 * s + lbl p.1 l := nI_clamp (by omega)
              have j2 : vp_in (nI (320 * s + lbl p.1 l)) 2560 := vp_in_nI (by omega) (by decide)
              by_cases c : q.1 = p.1
              · have hins : insF l p = l.set (lbl p.1 l) p := insL_set p l q hx c
                refine e_g2 hG [(263, [0, 1, 3, 4, 5])] 60 ?_
                simp only [e_wp_s, Option.getD_some, Option.isSome_some, Option.isSome_none, xis0, xis1, xis2, xis3, xis4, e_ks, lk_k, lk_c, List.lookup_nil, gt_c, vi_i, k1_n, k1_c, k2_n, k2_c, ar_n, ar_c, pk_n, pk_c, rm_0, rm_1, rm_2, rm_3, rm_4, rm_5, rc_9, rcs, fvs, rf_s, rf_n, isI_i, isL_l, isR_r, isR_n, isR_q, ct_i, ct_l, ct_r, ct_n, ct_q, tFs, tCs, tKs, tJs, tSs, e_nf, lgs, ↓reduceIte, true_and, and_true, false_and, and_false, or_true, true_or, false_or, or_false, Nat.reduceAdd, Nat.reduceEqDiff, Nat.reduceDiv, Nat.reduceLT, Nat.reduceLeDiff, Nat.zero_add, reduceCtorEq, Bool.false_eq_true, Option.toList_some, Option.toList_none, List.cons_append, List.nil_append, not_true_eq_false, not_false_eq_true, Nat.sub_zero, dsX7_merge_0, dsX7_merge_1, jsX7_merge, xcX7_merge, g0, ru227, ku227, lu227, ru231, ku231, lu231, sc, sv, upl, e5, j1, j2, r1, c, ↓sp_X7_spot, spt]
                refine fin U MC.rf MI.rf (by rw [hins, List.length_set]; exact upl) (fun q' y hq' hy => ?_) ?_
                · rw [hins, List.getElem?_set, if_neg (fun z => hq' z.symm)] at hy
                  obtain ⟨s1, s2, -⟩ := mP_at hPU hy
                  exact ⟨s1, s2⟩
                · rw [hins, List.getElem?_set, if_pos rfl, if_pos r3]
              · refine e_g2 hG [(180, [0, 1, 3, 4, 5])] 60 ?_
                simp only [e_wp_s, Option.getD_some, Option.isSome_some, Option.isSome_none, xis0, xis1, xis2, xis3, xis4, e_ks, lk_k, lk_c, List.lookup_nil, gt_c, vi_i, k1_n, k1_c, k2_n, k2_c, ar_n, ar_c, pk_n, pk_c, rm_0, rm_1, rm_2, rm_3, rm_4, rm_5, rc_9, rcs, fvs, rf_s, rf_n, isI_i, isL_l, isR_r, isR_n, isR_q, ct_i, ct_l, ct_r, ct_n, ct_q, tFs, tCs, tKs, tJs, tSs, e_nf, lgs, ↓reduceIte, true_and, and_true, false_and, and_false, or_true, true_or, false_or, or_false, Nat.reduceAdd, Nat.reduceEqDiff, Nat.reduceDiv, Nat.reduceLT, Nat.reduceLeDiff, Nat.zero_add, reduceCtorEq, Bool.false_eq_true, Option.toList_some, Option.toList_none, List.cons_append, List.nil_append, not_true_eq_false, not_false_eq_true, Nat.sub_zero, dsX7_merge_0, dsX7_merge_1, jsX7_merge, xcX7_merge, g0, ru227, ku227, lu227, ru231, ku231, lu231, sc, sv, upl, e5, j1, j2, r1, c, ↓sp_X7_spot, spt]
                exact goshf (fun q' hq' => by rw [hx] at hq'; cases hq'; exact c)
          have srch : ∀ e y, y + e = l.length → y + lbl p.1 (l.drop y) = lbl p.1 l → G 118 [(0, .ref m), (1, .int (nI s)), (3, .int (nI j)), (4, .int p.1), (5, .int (nI y))] [] U 0 0 := by
            intro e
            induction e with
            | zero =>
              intro y hy hz
              have e5 : ¬ nI y < nI l.length := nI_nlt (by omega) (by omega)
              rw [List.drop_eq_nil_of_le (by omega)] at hz
              refine e_g2 hG [(152, [0, 1, 3, 4, 5])] 60 ?_
              simp only [e_wp_s, Option.getD_some, Option.isSome_some, Option.isSome_none, xis0, xis1, xis2, xis3, xis4, e_ks, lk_k, lk_c, List.lookup_nil, gt_c, vi_i, k1_n, k1_c, k2_n, k2_c, ar_n, ar_c, pk_n, pk_c, rm_0, rm_1, rm_2, rm_3, rm_4, rm_5, rc_9, rcs, fvs, rf_s, rf_n, isI_i, isL_l, isR_r, isR_n, isR_q, ct_i, ct_l, ct_r, ct_n, ct_q, tFs, tCs, tKs, tJs, tSs, e_nf, lgs, ↓reduceIte, true_and, and_true, false_and, and_false, or_true, true_or, false_or, or_false, Nat.reduceAdd, Nat.reduceEqDiff, Nat.reduceDiv, Nat.reduceLT, Nat.reduceLeDiff, Nat.zero_add, reduceCtorEq, Bool.false_eq_true, Option.toList_some, Option.toList_none, List.cons_append, List.nil_append, not_true_eq_false, not_false_eq_true, Nat.sub_zero, dsX7_merge_0, dsX7_merge_1, jsX7_merge, xcX7_merge, g0, ru227, ku227, lu227, sc, sv, upl, e5]
              rw [show y = lbl p.1 l from hz]
              exact found
            | succ e ihe =>
              intro y hy hz
              have e5 : nI y < nI l.length := nI_lt (by omega) (by omega)
              obtain ⟨q, hx⟩ : ∃ q, l[y]? = some q := ⟨_, List.getElem?_eq_getElem (by omega)⟩
              obtain ⟨r1, r2, r3, r4⟩ := mP_at hPU hx
              have j1 : (nI (320 * s + y)).toNatClampNeg = 320 * s + y := nI_clamp (by omega)
              have j2 : vp_in (nI (320 * s + y)) 2560 := vp_in_nI (by omega) (by decide)
              rw [drop_at hx, lbl] at hz
              by_cases c : q.1 < p.1
              · rw [if_pos c] at hz
                refine e_g2 hG [(118, [0, 1, 3, 4, 5])] 60 ?_
                simp only [e_wp_s, Option.getD_some, Option.isSome_some, Option.isSome_none, xis0, xis1, xis2, xis3, xis4, e_ks, lk_k, lk_c, List.lookup_nil, gt_c, vi_i, k1_n, k1_c, k2_n, k2_c, ar_n, ar_c, pk_n, pk_c, rm_0, rm_1, rm_2, rm_3, rm_4, rm_5, rc_9, rcs, fvs, rf_s, rf_n, isI_i, isL_l, isR_r, isR_n, isR_q, ct_i, ct_l, ct_r, ct_n, ct_q, tFs, tCs, tKs, tJs, tSs, e_nf, lgs, ↓reduceIte, true_and, and_true, false_and, and_false, or_true, true_or, false_or, or_false, Nat.reduceAdd, Nat.reduceEqDiff, Nat.reduceDiv, Nat.reduceLT, Nat.reduceLeDiff, Nat.zero_add, reduceCtorEq, Bool.false_eq_true, Option.toList_some, Option.toList_none, List.cons_append, List.nil_append, not_true_eq_false, not_false_eq_true, Nat.sub_zero, dsX7_merge_0, dsX7_merge_1, jsX7_merge, xcX7_merge, g0, ru227, ku227, lu227, ru231, ku231, lu231, sc, sv, upl, e5, j1, j2, r1, c, nI_1, ↓sp_X7_spot, spt]
                exact ihe (y + 1) (by omega) (by omega)
              · rw [if_neg c] at hz
                refine e_g2 hG [(152, [0, 1, 3, 4, 5])] 60 ?_
                simp only [e_wp_s, Option.getD_some, Option.isSome_some, Option.isSome_none, xis0, xis1, xis2, xis3, xis4, e_ks, lk_k, lk_c, List.lookup_nil, gt_c, vi_i, k1_n, k1_c, k2_n, k2_c, ar_n, ar_c, pk_n, pk_c, rm_0, rm_1, rm_2, rm_3, rm_4, rm_5, rc_9, rcs, fvs, rf_s, rf_n, isI_i, isL_l, isR_r, isR_n, isR_q, ct_i, ct_l, ct_r, ct_n, ct_q, tFs, tCs, tKs, tJs, tSs, e_nf, lgs, ↓reduceIte, true_and, and_true, false_and, and_false, or_true, true_or, false_or, or_false, Nat.reduceAdd, Nat.reduceEqDiff, Nat.reduceDiv, Nat.reduceLT, Nat.reduceLeDiff, Nat.zero_add, reduceCtorEq, Bool.false_eq_true, Option.toList_some, Option.toList_none, List.cons_append, List.nil_append, not_true_eq_false, not_false_eq_true, Nat.sub_zero, dsX7_merge_0, dsX7_merge_1, jsX7_merge, xcX7_merge, g0, ru227, ku227, lu227, ru231, ku231, lu231, sc, sv, upl, e5, j1, j2, r1, c, nI_1, ↓sp_X7_spot, spt]
                rw [show y = lbl p.1 l from hz]
                exact found
          refine e_g2 hG [(118, [0, 1, 3, 4, 5])] 60 ?_
          simp only [e_wp_s, Option.getD_some, Option.isSome_some, Option.isSome_none, xis0, xis1, xis2, xis3, xis4, e_ks, lk_k, lk_c, List.lookup_nil, gt_c, vi_i, k1_n, k1_c, k2_n, k2_c, ar_n, ar_c, pk_n, pk_c, rm_0, rm_1, rm_2, rm_3, rm_4, rm_5, rc_9, rcs, fvs, rf_s, rf_n, isI_i, isL_l, isR_r, isR_n, isR_q, ct_i, ct_l, ct_r, ct_n, ct_q, tFs, tCs, tKs, tJs, tSs, e_nf, lgs, ↓reduceIte, true_and, and_true, false_and, and_false, or_true, true_or, false_or, or_false, Nat.reduceAdd, Nat.reduceEqDiff, Nat.reduceDiv, Nat.reduceLT, Nat.reduceLeDiff, Nat.zero_add, reduceCtorEq, Bool.false_eq_true, Option.toList_some, Option.toList_none, List.cons_append, List.nil_append, not_true_eq_false, not_false_eq_true, Nat.sub_zero, dsX7_merge_0, dsX7_merge_1, jsX7_merge, xcX7_merge, g0, ru229, ku229, lu229, ru233, ku233, lu233, sc, sv, ul, e2, i1, i2, w1, l50]
          exact srch l.length 0 (by omega) (by rw [Nat.zero_add]; rfl)
      refine e_g2 hG [(92, [0, 1, 3])] 60 ?_
      simp only [e_wp_s, Option.getD_some, Option.isSome_some, Option.isSome_none, xis0, xis1, xis2, xis3, xis4, e_ks, lk_k, lk_c, List.lookup_nil, gt_c, vi_i, k1_n, k1_c, k2_n, k2_c, ar_n, ar_c, pk_n, pk_c, rm_0, rm_1, rm_2, rm_3, rm_4, rm_5, rc_9, rcs, fvs, rf_s, rf_n, isI_i, isL_l, isR_r, isR_n, isR_q, ct_i, ct_l, ct_r, ct_n, ct_q, tFs, tCs, tKs, tJs, tSs, e_nf, lgs, ↓reduceIte, true_and, and_true, false_and, and_false, or_true, true_or, false_or, or_false, Nat.reduceAdd, Nat.reduceEqDiff, Nat.reduceDiv, Nat.reduceLT, Nat.reduceLeDiff, Nat.zero_add, reduceCtorEq, Bool.false_eq_true, Option.toList_some, Option.toList_none, List.cons_append, List.nil_append, not_true_eq_false, not_false_eq_true, Nat.sub_zero, dsX7_merge_0, dsX7_merge_1, jsX7_merge, xcX7_merge]
      exact loop lt.length 0 M mp (by omega) MC.rf MI.rf hP rfl
    have cntl : ∀ d k, k + d = (mpts S.2.2.2.1).length → G 37 [(0, .ref m), (1, .int (nI s)), (2, .int (nI ((mpts S.2.2.2.1).length + S.2.2.2.2.length) - nI (cnt (fun p => hasT S.2.2.2.2 p.1) ((mpts S.2.2.2.1).take k)))), (3, .int (nI k))] [] M 0 0 := by
      intro d
      induction d with
      | zero =>
        intro k hk
        have e2 : ¬ nI k < nI (mpts S.2.2.2.1).length := nI_nlt (by omega) (by omega)
        rw [List.take_of_length_le (by omega), nI_sub hcnt]
        show G 37 [(0, .ref m), (1, .int (nI s)), (2, .int (nI (mN7 S))), (3, .int (nI k))] [] M 0 0
        by_cases c2 : 300 < mN7 S
        · have e3 : (300 : Int32) < nI (mN7 S) := nI_lt (a := 300) c2 (by unfold mN7; omega)
          rw [if_pos c2] at hq
          refine e_g2 hG [] 60 ?_
          simp only [e_wp_s, Option.getD_some, Option.isSome_some, Option.isSome_none, xis0, xis1, xis2, xis3, xis4, e_ks, lk_k, lk_c, List.lookup_nil, gt_c, vi_i, k1_n, k1_c, k2_n, k2_c, ar_n, ar_c, pk_n, pk_c, rm_0, rm_1, rm_2, rm_3, rm_4, rm_5, rc_9, rcs, fvs, rf_s, rf_n, isI_i, isL_l, isR_r, isR_n, isR_q, ct_i, ct_l, ct_r, ct_n, ct_q, tFs, tCs, tKs, tJs, tSs, e_nf, lgs, ↓reduceIte, true_and, and_true, false_and, and_false, or_true, true_or, false_or, or_false, Nat.reduceAdd, Nat.reduceEqDiff, Nat.reduceDiv, Nat.reduceLT, Nat.reduceLeDiff, Nat.zero_add, reduceCtorEq, Bool.false_eq_true, Option.toList_some, Option.toList_none, List.cons_append, List.nil_append, not_true_eq_false, not_false_eq_true, Nat.sub_zero, dsX7_merge_0, dsX7_merge_1, jsX7_merge, xcX7_merge, h0, r227, k227, l227, sc, sv, pl, e2, e3]
          exact hq M hR Fr.rf
        · have e3 : ¬ (300 : Int32) < nI (mN7 S) := nI_nlt (a := 300) (by omega) (by decide)
          refine e_g2 hG [(90, [0, 1])] 60 ?_
          simp only [e_wp_s, Option.getD_some, Option.isSome_some, Option.isSome_none, xis0, xis1, xis2, xis3, xis4, e_ks, lk_k, lk_c, List.lookup_nil, gt_c, vi_i, k1_n, k1_c, k2_n, k2_c, ar_n, ar_c, pk_n, pk_c, rm_0, rm_1, rm_2, rm_3, rm_4, rm_5, rc_9, rcs, fvs, rf_s, rf_n, isI_i, isL_l, isR_r, isR_n, isR_q, ct_i, ct_l, ct_r, ct_n, ct_q, tFs, tCs, tKs, tJs, tSs, e_nf, lgs, ↓reduceIte, true_and, and_true, false_and, and_false, or_true, true_or, false_or, or_false, Nat.reduceAdd, Nat.reduceEqDiff, Nat.reduceDiv, Nat.reduceLT, Nat.reduceLeDiff, Nat.zero_add, reduceCtorEq, Bool.false_eq_true, Option.toList_some, Option.toList_none, List.cons_append, List.nil_append, not_true_eq_false, not_false_eq_true, Nat.sub_zero, dsX7_merge_0, dsX7_merge_1, jsX7_merge, xcX7_merge, h0, r227, k227, l227, sc, sv, pl, e2, e3]
          exact mrg c2
      | succ d ih =>
        intro k hk
        have e2 : nI k < nI (mpts S.2.2.2.1).length := nI_lt (by omega) (by omega)
        obtain ⟨q, hx⟩ : ∃ q, (mpts S.2.2.2.1)[k]? = some q := ⟨_, List.getElem?_eq_getElem (by omega)⟩
        obtain ⟨r1, r2, r3, r4⟩ := mP_at hP hx
        have j1 : (nI (320 * s + k)).toNatClampNeg = 320 * s + k := nI_clamp (by omega)
        have j2 : vp_in (nI (320 * s + k)) 2560 := vp_in_nI (by omega) (by decide)
        have ih2 := ih (k + 1) (by omega)
        rw [cnt_take hx] at ih2
        refine e_g2 hG [(64, [0, 1, 3])] 60 ?_
        simp only [e_wp_s, Option.getD_some, Option.isSome_some, Option.isSome_none, xis0, xis1, xis2, xis3, xis4, e_ks, lk_k, lk_c, List.lookup_nil, gt_c, vi_i, k1_n, k1_c, k2_n, k2_c, ar_n, ar_c, pk_n, pk_c, rm_0, rm_1, rm_2, rm_3, rm_4, rm_5, rc_9, rcs, fvs, rf_s, rf_n, isI_i, isL_l, isR_r, isR_n, isR_q, ct_i, ct_l, ct_r, ct_n, ct_q, tFs, tCs, tKs, tJs, tSs, e_nf, lgs, ↓reduceIte, true_and, and_true, false_and, and_false, or_true, true_or, false_or, or_false, Nat.reduceAdd, Nat.reduceEqDiff, Nat.reduceDiv, Nat.reduceLT, Nat.reduceLeDiff, Nat.zero_add, reduceCtorEq, Bool.false_eq_true, Option.toList_some, Option.toList_none, List.cons_append, List.nil_append, not_true_eq_false, not_false_eq_true, Nat.sub_zero, dsX7_merge_0, dsX7_merge_1, jsX7_merge, xcX7_merge, h0, r227, k227, l227, r231, k231, l231, sc, sv, pl, e2, j1, j2, r1, ↓sp_X7_spot, spt]
        refine ⟨A, s, _, hM, hs, hT, rfl, ?_⟩
        generalize cnt (fun p => hasT S.2.2.2.2 p.1) ((mpts S.2.2.2.1).take k) = cc at *
        by_cases c : hasT S.2.2.2.2 q.1 = true
        · rw [if_pos c] at ih2 ⊢
          have e9 : nI ((mpts S.2.2.2.1).length + S.2.2.2.2.length) - nI cc - 1 = nI ((mpts S.2.2.2.1).length + S.2.2.2.2.length) - nI (cc + 1) := by
            rw [← nI_1, Int32.sub_eq_add_neg, Int32.sub_eq_add_neg, Int32.sub_eq_add_neg, Int32.neg_add, Int32.add_assoc, Int32.sub_eq_add_neg]
          refine e_g2 hG [(37, [0, 1, 2, 3])] 60 ?_
          simp only [e_wp_s, Option.getD_some, Option.isSome_some, Option.isSome_none, xis0, xis1, xis2, xis3, xis4, e_ks, lk_k, lk_c, List.lookup_nil, gt_c, vi_i, k1_n, k1_c, k2_n, k2_c, ar_n, ar_c, pk_n, pk_c, rm_0, rm_1, rm_2, rm_3, rm_4, rm_5, rc_9, rcs, fvs, rf_s, rf_n, isI_i, isL_l, isR_r, isR_n, isR_q, ct_i, ct_l, ct_r, ct_n, ct_q, tFs, tCs, tKs, tJs, tSs, e_nf, lgs, ↓reduceIte, true_and, and_true, false_and, and_false, or_true, true_or, false_or, or_false, Nat.reduceAdd, Nat.reduceEqDiff, Nat.reduceDiv, Nat.reduceLT, Nat.reduceLeDiff, Nat.zero_add, reduceCtorEq, Bool.false_eq_true, Option.toList_some, Option.toList_none, List.cons_append, List.nil_append, not_true_eq_false, not_false_eq_true, Nat.sub_zero, dsX7_merge_0, dsX7_merge_1, jsX7_merge, xcX7_merge, i10, nI_1, e9]
          exact ih2
        · rw [if_neg c, Nat.add_zero] at ih2
          rw [if_neg c]
          refine e_g2 hG [(37, [0, 1, 2, 3])] 60 ?_
          simp only [e_wp_s, Option.getD_some, Option.isSome_some, Option.isSome_none, xis0, xis1, xis2, xis3, xis4, e_ks, lk_k, lk_c, List.lookup_nil, gt_c, vi_i, k1_n, k1_c, k2_n, k2_c, ar_n, ar_c, pk_n, pk_c, rm_0, rm_1, rm_2, rm_3, rm_4, rm_5, rc_9, rcs, fvs, rf_s, rf_n, isI_i, isL_l, isR_r, isR_n, isR_q, ct_i, ct_l, ct_r, ct_n, ct_q, tFs, tCs, tKs, tJs, tSs, e_nf, lgs, ↓reduceIte, true_and, and_true, false_and, and_false, or_true, true_or, false_or, or_false, Nat.reduceAdd, Nat.reduceEqDiff, Nat.reduceDiv, Nat.reduceLT, Nat.reduceLeDiff, Nat.zero_add, reduceCtorEq, Bool.false_eq_true, Option.toList_some, Option.toList_none, List.cons_append, List.nil_append, not_true_eq_false, not_false_eq_true, Nat.sub_zero, dsX7_merge_0, dsX7_merge_1, jsX7_merge, xcX7_merge, i10, nI_1, Int32.sub_zero]
          exact ih2
    refine e_g2 hG [(37, [0, 1, 2, 3])] 60 ?_
    simp only [e_wp_s, Option.getD_some, Option.isSome_some, Option.isSome_none, xis0, xis1, xis2, xis3, xis4, e_ks, lk_k, lk_c, List.lookup_nil, gt_c, vi_i, k1_n, k1_c, k2_n, k2_c, ar_n, ar_c, pk_n, pk_c, rm_0, rm_1, rm_2, rm_3, rm_4, rm_5, rc_9, rcs, fvs, rf_s, rf_n, isI_i, isL_l, isR_r, isR_n, isR_q, ct_i, ct_l, ct_r, ct_n, ct_q, tFs, tCs, tKs, tJs, tSs, e_nf, lgs, ↓reduceIte, true_and, and_true, false_and, and_false, or_true, true_or, false_or, or_false, Nat.reduceAdd, Nat.reduceEqDiff, Nat.reduceDiv, Nat.reduceLT, Nat.reduceLeDiff, Nat.zero_add, reduceCtorEq, Bool.false_eq_true, Option.toList_some, Option.toList_none, List.cons_append, List.nil_append, not_true_eq_false, not_false_eq_true, Nat.sub_zero, dsX7_merge_0, dsX7_merge_1, jsX7_merge, xcX7_merge, h0, r227, k227, l227, r229, k229, l229, sc, sv, pl, ll, e1, nI_add]
    have hl0 := cntl (mpts S.2.2.2.1).length 0 (by omega)
    rw [show nI (cnt (fun p => hasT S.2.2.2.2 p.1) ((mpts S.2.2.2.1).take 0)) = 0 from rfl, Int32.sub_zero] at hl0
    exact hl0
