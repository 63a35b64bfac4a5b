/-! the reference: block, head, about -/
theorem nI_or {a b : Nat} : nI a ||| nI b = nI (a ||| b) := Int32.toBitVec_inj.mp (by
  rw [Int32.toBitVec_or]
  show BitVec.ofNat 32 a ||| BitVec.ofNat 32 b = BitVec.ofNat 32 (a ||| b)
  rw [BitVec.ofNat_or])
theorem bm_n : ∀ r, r < 8 → (128 : Int32) >>> (nI r &&& 31) = nI (2 ^ (7 - r)) := by decide +kernel
theorem bm_l : ∀ r, r < 8 → 2 ^ (7 - r) < 2 ^ 8 := by decide
theorem wbl_rng : ∀ (bs : List Bool) (g : Nat → Int32) (p : Nat), (∀ j, ∃ c, c < 256 ∧ g j = nI c) → ∀ j, ∃ c, c < 256 ∧ wbl g p bs j = nI c
  | [], g, p, h, j => h j
  | v :: bs, g, p, h, j => by
    rw [wbl]
    refine wbl_rng bs _ _ (fun i => ?_) j
    unfold wb1
    split
    · obtain ⟨c, hc, e⟩ := h i
      refine ⟨c ||| 2 ^ (7 - p % 8), Nat.or_lt_two_pow (n := 8) hc (bm_l _ (by omega)), ?_⟩
      unfold bm
      rw [e, bm_n _ (by omega), nI_or]
    · exact h i
theorem byt_sm (bs : List Bool) : ∀ n, ∃ c, c ≤ 256 * n ∧ sm (byt bs) n = nI c
  | 0 => ⟨0, Nat.le_refl _, rfl⟩
  | n + 1 => by
    obtain ⟨c, hc, e⟩ := byt_sm bs n
    obtain ⟨d, hd, e2⟩ := wbl_rng bs (fun _ => 0) 0 (fun _ => ⟨0, by decide, rfl⟩) n
    refine ⟨c + d, by omega, ?_⟩
    rw [sm, e, ← nI_add]
    congr 1
theorem MRp.sI {A : Nat → Nat} {O : GH} {M : HM} {m : Nat} {L : List SER} {z : Nat × Nat × Nat} (h : MRp A O M m L z) : MRp A O M m L z := h
def csX7_block : CS := (cs_c 0 197 3 7 sp_X7_isBlock (cs_c 0 200 3 7 sp_X7_write (cs_c 0 204 1 7 sp_X7_bytes (cs_c 0 111 3 7 sp_X7_spot (cs_c 0 207 3 7 sp_X7_firstTime (cs_c 0 194 3 7 sp_X7_lastTime (cs_c 0 122 3 7 sp_X7_isTorn cs_0)))))))
theorem csoX7_block : ∀ op x na cl sp, csX7_block op x = some (na, cl, sp) → CallOK 7 4 104 op x na cl sp := (cs_c_ok (caX7_block_197 okX7_isBlock) (cs_c_ok (caX7_block_200 okX7_write) (cs_c_ok (caX7_block_204 okX7_bytes) (cs_c_ok (caX7_block_111 okX7_spot) (cs_c_ok (caX7_block_207 okX7_firstTime) (cs_c_ok (caX7_block_194 okX7_lastTime) (cs_c_ok (caX7_block_122 okX7_isTorn) cs_0_ok)))))))
theorem xcX7_block : (∀ (Q : QT) (G : GT) (pc : Nat) (L : LV) (a0 a1 a2 : Value) (r : List Value) (M : HM) (k n : Nat), ex_i 7 6 1 false csX7_block Q G (.invokevirtual 197) pc L (a2 :: a1 :: a0 :: r) M k n = (e_rm r ∧ e_rc M 7 [a0, a1, a2] ∧ sp_X7_isBlock [a0, a1, a2] M k n (fun v M' k' n' => G (pc + 3) L (v.toList ++ r) M' k' n'))) ∧ (∀ (Q : QT) (G : GT) (pc : Nat) (L : LV) (a0 a1 a2 : Value) (r : List Value) (M : HM) (k n : Nat), ex_i 7 6 1 false csX7_block Q G (.invokevirtual 200) pc L (a2 :: a1 :: a0 :: r) M k n = (e_rm r ∧ e_rc M 7 [a0, a1, a2] ∧ sp_X7_write [a0, a1, a2] M k n (fun v M' k' n' => G (pc + 3) L (v.toList ++ r) M' k' n'))) ∧ (∀ (Q : QT) (G : GT) (pc : Nat) (L : LV) (a0 : Value) (r : List Value) (M : HM) (k n : Nat), ex_i 7 6 1 false csX7_block Q G (.invokevirtual 204) pc L (a0 :: r) M k n = (e_rm r ∧ e_rc M 7 [a0] ∧ sp_X7_bytes [a0] M k n (fun v M' k' n' => G (pc + 3) L (v.toList ++ r) M' k' n'))) ∧ (∀ (Q : QT) (G : GT) (pc : Nat) (L : LV) (a0 a1 a2 : Value) (r : List Value) (M : HM) (k n : Nat), ex_i 7 6 1 false csX7_block Q G (.invokevirtual 111) pc L (a2 :: a1 :: a0 :: r) M k n = (e_rm r ∧ e_rc M 7 [a0, a1, a2] ∧ sp_X7_spot [a0, a1, a2] M k n (fun v M' k' n' => G (pc + 3) L (v.toList ++ r) M' k' n'))) ∧ (∀ (Q : QT) (G : GT) (pc : Nat) (L : LV) (a0 a1 a2 : Value) (r : List Value) (M : HM) (k n : Nat), ex_i 7 6 1 false csX7_block Q G (.invokevirtual 207) pc L (a2 :: a1 :: a0 :: r) M k n = (e_rm r ∧ e_rc M 7 [a0, a1, a2] ∧ sp_X7_firstTime [a0, a1, a2] M k n (fun v M' k' n' => G (pc + 3) L (v.toList ++ r) M' k' n'))) ∧ (∀ (Q : QT) (G : GT) (pc : Nat) (L : LV) (a0 a1 a2 : Value) (r : List Value) (M : HM) (k n : Nat), ex_i 7 6 1 false csX7_block Q G (.invokevirtual 194) pc L (a2 :: a1 :: a0 :: r) M k n = (e_rm r ∧ e_rc M 7 [a0, a1, a2] ∧ sp_X7_lastTime [a0, a1, a2] M k n (fun v M' k' n' => G (pc + 3) L (v.toList ++ r) M' k' n'))) ∧ (∀ (Q : QT) (G : GT) (pc : Nat) (L : LV) (a0 a1 a2 : Value) (r : List Value) (M : HM) (k n : Nat), ex_i 7 6 1 false csX7_block Q G (.invokevirtual 122) pc L (a2 :: a1 :: a0 :: r) M k n = (e_rm r ∧ e_rc M 7 [a0, a1, a2] ∧ sp_X7_isTorn [a0, a1, a2] M k n (fun v M' k' n' => G (pc + 3) L (v.toList ++ r) M' k' n'))) := ⟨(fun _ _ _ _ _ _ _ _ _ _ _ => xv0_3 rfl), (fun _ _ _ _ _ _ _ _ _ _ _ => xv0_3 rfl), (fun _ _ _ _ _ _ _ _ _ => xv0_1 rfl), (fun _ _ _ _ _ _ _ _ _ _ _ => xv0_3 rfl), (fun _ _ _ _ _ _ _ _ _ _ _ => xv0_3 rfl), (fun _ _ _ _ _ _ _ _ _ _ _ => xv0_3 rfl), (fun _ _ _ _ _ _ _ _ _ _ _ => xv0_3 rfl)⟩
def sp_X7_block : SP := fun as M k n Q => match as with
  | [.ref m, .int i, .int j, .int w] => ∃ A O L z, MRp A O M m L z ∧ wft L ∧ ∀ U, MRp A O U m L z → Fr (Ss m) O O M U → Q (some (.int (aBlock L i j w))) U k n
  | _ => False
theorem okX7_block : OkX7_block sp_X7_block := by
  refine inX7_block csoX7_block ?_
  intro as M k n Q hsp
  unfold sp_X7_block at hsp
  split at hsp
  rotate_left
  · exact hsp.elim
  rename_i m i j w
  obtain ⟨A, O, L, z, hR, hwt, hq⟩ := hsp
  have hM := hR.1
  have h0 := hM.1
  refine ⟨0, 0, Nat.zero_le _, Nat.zero_le _, Nat.le_of_ble_eq_true rfl, fun G hG => ?_⟩
  unfold aBlock at hq
  refine e_g2 hG [(6, [0, 1, 2, 3])] 60 ?_
  simp only [e_wp_s, Option.getD_some, Option.isSome_some, Option.isSome_none, xis0, xis1, xis2, xis3, xis4, e_ks, lk_k, lk_c, List.lookup_nil, gt_c, vi_i, k1_n, k1_c, k2_n, k2_c, ar_n, ar_c, pk_n, pk_c, rm_0, rm_1, rm_2, rm_3, rm_4, rm_5, rc_9, rcs, fvs, rf_s, rf_n, isI_i, isL_l, isR_r, isR_n, isR_q, ct_i, ct_l, ct_r, ct_n, ct_q, tFs, tCs, tKs, tJs, tSs, e_nf, lgs, ↓reduceIte, true_and, and_true, false_and, and_false, or_true, true_or, false_or, or_false, Nat.reduceAdd, Nat.reduceEqDiff, Nat.reduceDiv, Nat.reduceLT, Nat.reduceLeDiff, Nat.zero_add, reduceCtorEq, Bool.false_eq_true, Option.toList_some, Option.toList_none, List.cons_append, List.nil_append, not_true_eq_false, not_false_eq_true, Nat.sub_zero, dsX7_block, jsX7_block, xcX7_block, h0]
  refine ⟨A, O, L, z, hR, ?_⟩
  rcases hR.bk i j with hb | ⟨s, S, b, X, hb, -, rfl, h3, rfl, h5, h6, h7, h8, -⟩
  · rw [hb] at hq ⊢
    refine e_g2 hG [] 60 ?_
    simp only [e_wp_s, Option.getD_some, Option.isSome_some, Option.isSome_none, xis0, xis1, xis2, xis3, xis4, e_ks, lk_k, lk_c, List.lookup_nil, gt_c, vi_i, k1_n, k1_c, k2_n, k2_c, ar_n, ar_c, pk_n, pk_c, rm_0, rm_1, rm_2, rm_3, rm_4, rm_5, rc_9, rcs, fvs, rf_s, rf_n, isI_i, isL_l, isR_r, isR_n, isR_q, ct_i, ct_l, ct_r, ct_n, ct_q, tFs, tCs, tKs, tJs, tSs, e_nf, lgs, ↓reduceIte, true_and, and_true, false_and, and_false, or_true, true_or, false_or, or_false, Nat.reduceAdd, Nat.reduceEqDiff, Nat.reduceDiv, Nat.reduceLT, Nat.reduceLeDiff, Nat.zero_add, reduceCtorEq, Bool.false_eq_true, Option.toList_some, Option.toList_none, List.cons_append, List.nil_append, not_true_eq_false, not_false_eq_true, Nat.sub_zero, dsX7_block, jsX7_block, xcX7_block]
    exact hq M hR Fr.rf
  · simp only [hb] at hq
    rw [hb]
    have htm := tmO_blk (hwt S (List.mem_of_getElem? h3)) h5
    have h16 := (h6.2.2.1.2.2.2 X (List.mem_of_getElem? h5)).2.1
    have hen := enc_1808 h16
    have hbc := bc_e (show (eB (enc X.1)).length ≤ 1808 by omega)
    have f2 : (nI (320 * s + b)).toNatClampNeg = 320 * s + b := nI_clamp (by omega)
    have f3 : vp_in (nI (320 * s + b)) 2560 := vp_in_nI (by omega) (by decide)
    refine e_g2 hG [(17, [0, 1, 2, 3])] 60 ?_
    simp only [e_wp_s, Option.getD_some, Option.isSome_some, Option.isSome_none, xis0, xis1, xis2, xis3, xis4, e_ks, lk_k, lk_c, List.lookup_nil, gt_c, vi_i, k1_n, k1_c, k2_n, k2_c, ar_n, ar_c, pk_n, pk_c, rm_0, rm_1, rm_2, rm_3, rm_4, rm_5, rc_9, rcs, fvs, rf_s, rf_n, isI_i, isL_l, isR_r, isR_n, isR_q, ct_i, ct_l, ct_r, ct_n, ct_q, tFs, tCs, tKs, tJs, tSs, e_nf, lgs, ↓reduceIte, true_and, and_true, false_and, and_false, or_true, true_or, false_or, or_false, Nat.reduceAdd, Nat.reduceEqDiff, Nat.reduceDiv, Nat.reduceLT, Nat.reduceLeDiff, Nat.zero_add, reduceCtorEq, Bool.false_eq_true, Option.toList_some, Option.toList_none, List.cons_append, List.nil_append, not_true_eq_false, not_false_eq_true, Nat.sub_zero, dsX7_block, jsX7_block, xcX7_block, h0, i10]
    refine ⟨O, A, s, b, _, X, hM, hR.2.1, h7, h6.2.2.1, h6.2.1, rfl, rfl, h5, htm, fun U hC hby hbi hco => ?_⟩
    have hRU := hR.scr hC.w3
    have hq := hq U hRU hC.2.2.2.1
    have hMU := hC.ms hM
    have g0 := hMU.1
    obtain ⟨r232, k232, l232⟩ : mR U 232 m = some (A 232) ∧ mK U (A 232) = 9 ∧ mN U (A 232) = 2560 := hMU.2 232 rfl
    obtain ⟨r245, k245, l245⟩ : mR U 245 m = some (A 245) ∧ mK U (A 245) = 9 ∧ mN U (A 245) = 256 := hMU.2 245 rfl
    have hBu := (hRU.2.2.2.1 s S h3).2.2.1
    have hPu := (hRU.2.2.2.1 s S h3).2.1
    have hsz := (hBu.2.2.1 b X h5).1
    have sw : G 50 [(0, .ref m), (1, .int (nI s)), (2, .int (nI b)), (3, .int w), (4, .int (sm (byt (eB (enc X.1))) (((eB (enc X.1)).length + 7) / 8)))] [] U 0 0 := by
      obtain ⟨c, hc, hcs⟩ := byt_sm (eB (enc X.1)) (((eB (enc X.1)).length + 7) / 8)
      have d6 : nI c / 256 = nI (c / 256) := pk_div (d := 256) (by omega) (by decide) (by decide)
      have r6 : nI c - nI (c / 256) * 256 = nI (c % 256) := by
        have := pk_rem (a := c) (d := 256) (by omega) (by decide) (by decide)
        rw [show nI 256 = 256 from rfl, d6] at this
        exact this
      have a6 : nI c &&& 255 = nI (c % 256) := pk_andN (by omega) 8 (by decide)
      have z6 : ¬ (256 : Int32) = 0 := by decide
      have hf : w = 1 → sp_X7_firstTime [.ref m, .int (nI s), .int (nI b)] U 0 0 (fun v M' k' n' => G 110 [] (v.toList ++ []) M' k' n') := fun e => by
        refine ⟨A, s, b, _, X, hMU, h7, hBu, hPu, rfl, rfl, h5, ?_⟩
        refine e_g2 hG [] 60 ?_
        simp only [e_wp_s, Option.getD_some, Option.isSome_some, Option.isSome_none, xis0, xis1, xis2, xis3, xis4, e_ks, lk_k, lk_c, List.lookup_nil, gt_c, vi_i, k1_n, k1_c, k2_n, k2_c, ar_n, ar_c, pk_n, pk_c, rm_0, rm_1, rm_2, rm_3, rm_4, rm_5, rc_9, rcs, fvs, rf_s, rf_n, isI_i, isL_l, isR_r, isR_n, isR_q, ct_i, ct_l, ct_r, ct_n, ct_q, tFs, tCs, tKs, tJs, tSs, e_nf, lgs, ↓reduceIte, true_and, and_true, false_and, and_false, or_true, true_or, false_or, or_false, Nat.reduceAdd, Nat.reduceEqDiff, Nat.reduceDiv, Nat.reduceLT, Nat.reduceLeDiff, Nat.zero_add, reduceCtorEq, Bool.false_eq_true, Option.toList_some, Option.toList_none, List.cons_append, List.nil_append, not_true_eq_false, not_false_eq_true, Nat.sub_zero, dsX7_block, jsX7_block, xcX7_block]
        subst e; simpa [aBlk] using hq
      have hl : w = 2 → sp_X7_lastTime [.ref m, .int (nI s), .int (nI b)] U 0 0 (fun v M' k' n' => G 117 [] (v.toList ++ []) M' k' n') := fun e => by
        refine ⟨A, s, b, _, X, hMU, h7, hBu, hPu, rfl, rfl, h5, ?_⟩
        refine e_g2 hG [] 60 ?_
        simp only [e_wp_s, Option.getD_some, Option.isSome_some, Option.isSome_none, xis0, xis1, xis2, xis3, xis4, e_ks, lk_k, lk_c, List.lookup_nil, gt_c, vi_i, k1_n, k1_c, k2_n, k2_c, ar_n, ar_c, pk_n, pk_c, rm_0, rm_1, rm_2, rm_3, rm_4, rm_5, rc_9, rcs, fvs, rf_s, rf_n, isI_i, isL_l, isR_r, isR_n, isR_q, ct_i, ct_l, ct_r, ct_n, ct_q, tFs, tCs, tKs, tJs, tSs, e_nf, lgs, ↓reduceIte, true_and, and_true, false_and, and_false, or_true, true_or, false_or, or_false, Nat.reduceAdd, Nat.reduceEqDiff, Nat.reduceDiv, Nat.reduceLT, Nat.reduceLeDiff, Nat.zero_add, reduceCtorEq, Bool.false_eq_true, Option.toList_some, Option.toList_none, List.cons_append, List.nil_append, not_true_eq_false, not_false_eq_true, Nat.sub_zero, dsX7_block, jsX7_block, xcX7_block]
        subst e; simpa [aBlk] using hq
      have ht : w = 5 → sp_X7_isTorn [.ref m, .int (nI s), .int (nI b)] U 0 0 (fun v M' k' n' => G 136 [] (v.toList ++ []) M' k' n') := fun e => by
        refine ⟨A, s, b, _, X, hMU, h7, hBu, rfl, rfl, h5, ?_⟩
        subst e
        by_cases ct : tornB X = true
        · rw [if_pos ct]
          refine e_g2 hG [] 60 ?_
          simp only [e_wp_s, Option.getD_some, Option.isSome_some, Option.isSome_none, xis0, xis1, xis2, xis3, xis4, e_ks, lk_k, lk_c, List.lookup_nil, gt_c, vi_i, k1_n, k1_c, k2_n, k2_c, ar_n, ar_c, pk_n, pk_c, rm_0, rm_1, rm_2, rm_3, rm_4, rm_5, rc_9, rcs, fvs, rf_s, rf_n, isI_i, isL_l, isR_r, isR_n, isR_q, ct_i, ct_l, ct_r, ct_n, ct_q, tFs, tCs, tKs, tJs, tSs, e_nf, lgs, ↓reduceIte, true_and, and_true, false_and, and_false, or_true, true_or, false_or, or_false, Nat.reduceAdd, Nat.reduceEqDiff, Nat.reduceDiv, Nat.reduceLT, Nat.reduceLeDiff, Nat.zero_add, reduceCtorEq, Bool.false_eq_true, Option.toList_some, Option.toList_none, List.cons_append, List.nil_append, not_true_eq_false, not_false_eq_true, Nat.sub_zero, dsX7_block, jsX7_block, xcX7_block, i10]
          simpa [aBlk, ct] using hq
        · rw [if_neg ct]
          refine e_g2 hG [] 60 ?_
          simp only [e_wp_s, Option.getD_some, Option.isSome_some, Option.isSome_none, xis0, xis1, xis2, xis3, xis4, e_ks, lk_k, lk_c, List.lookup_nil, gt_c, vi_i, k1_n, k1_c, k2_n, k2_c, ar_n, ar_c, pk_n, pk_c, rm_0, rm_1, rm_2, rm_3, rm_4, rm_5, rc_9, rcs, fvs, rf_s, rf_n, isI_i, isL_l, isR_r, isR_n, isR_q, ct_i, ct_l, ct_r, ct_n, ct_q, tFs, tCs, tKs, tJs, tSs, e_nf, lgs, ↓reduceIte, true_and, and_true, false_and, and_false, or_true, true_or, false_or, or_false, Nat.reduceAdd, Nat.reduceEqDiff, Nat.reduceDiv, Nat.reduceLT, Nat.reduceLeDiff, Nat.zero_add, reduceCtorEq, Bool.false_eq_true, Option.toList_some, Option.toList_none, List.cons_append, List.nil_append, not_true_eq_false, not_false_eq_true, Nat.sub_zero, dsX7_block, jsX7_block, xcX7_block, i10]
          simpa [aBlk, ct] using hq
      have hc4 : w = 4 → Q (some (.int (nI (c % 256)))) U k n := fun e => by
        subst e
        rw [← a6, ← hcs]
        simpa [aBlk] using hq
      rw [hcs]
      refine e_g2 hG [(110, []), (117, []), (136, [])] 60 ?_
      simp only [e_wp_s, Option.getD_some, Option.isSome_some, Option.isSome_none, xis0, xis1, xis2, xis3, xis4, e_ks, lk_k, lk_c, List.lookup_nil, gt_c, vi_i, k1_n, k1_c, k2_n, k2_c, ar_n, ar_c, pk_n, pk_c, rm_0, rm_1, rm_2, rm_3, rm_4, rm_5, rc_9, rcs, fvs, rf_s, rf_n, isI_i, isL_l, isR_r, isR_n, isR_q, ct_i, ct_l, ct_r, ct_n, ct_q, tFs, tCs, tKs, tJs, tSs, e_nf, lgs, ↓reduceIte, true_and, and_true, false_and, and_false, or_true, true_or, false_or, or_false, Nat.reduceAdd, Nat.reduceEqDiff, Nat.reduceDiv, Nat.reduceLT, Nat.reduceLeDiff, Nat.zero_add, reduceCtorEq, Bool.false_eq_true, Option.toList_some, Option.toList_none, List.cons_append, List.nil_append, not_true_eq_false, not_false_eq_true, Nat.sub_zero, dsX7_block, jsX7_block, xcX7_block, g0, r232, k232, l232, f2, f3, hsz, hbi, hbc, d6, r6, z6, ↓sp_X7_spot, spt, ↓sp_X7_bytes, e_tw, e_lw, Int.reduceAdd, tis]
      refine ⟨rfl, ?_⟩
      by_cases c1 : w = 1
      · have := hf c1
        subst c1; simpa using this
      by_cases c2 : w = 2
      · have := hl c2
        subst c2; simpa using this
      by_cases c5 : w = 5
      · have := ht c5
        subst c5; simpa using this
      by_cases c4 : w = 4
      · have := hc4 c4
        subst c4; simpa using this
      unfold aBlk at hq
      by_cases c0 : w = 0
      · subst c0; simpa using hq
      by_cases c3 : w = 3
      · subst c3; simpa using hq
      by_cases c6 : w = 6
      · subst c6; simpa using hq
      simpa [c0, c1, c2, c3, c4, c5, c6] using hq
    have loop : ∀ d k, k + d = ((eB (enc X.1)).length + 7) / 8 → G 23 [(0, .ref m), (1, .int (nI s)), (2, .int (nI b)), (3, .int w), (4, .int (sm (byt (eB (enc X.1))) k)), (5, .int (nI k))] [] U 0 0 := by
      intro d
      induction d with
      | zero =>
        intro k hk
        have e1 : ¬ nI k < nI (((eB (enc X.1)).length + 7) / 8) := nI_nlt (by omega) (by omega)
        refine e_g2 hG [(50, [0, 1, 2, 3, 4])] 60 ?_
        simp only [e_wp_s, Option.getD_some, Option.isSome_some, Option.isSome_none, xis0, xis1, xis2, xis3, xis4, e_ks, lk_k, lk_c, List.lookup_nil, gt_c, vi_i, k1_n, k1_c, k2_n, k2_c, ar_n, ar_c, pk_n, pk_c, rm_0, rm_1, rm_2, rm_3, rm_4, rm_5, rc_9, rcs, fvs, rf_s, rf_n, isI_i, isL_l, isR_r, isR_n, isR_q, ct_i, ct_l, ct_r, ct_n, ct_q, tFs, tCs, tKs, tJs, tSs, e_nf, lgs, ↓reduceIte, true_and, and_true, false_and, and_false, or_true, true_or, false_or, or_false, Nat.reduceAdd, Nat.reduceEqDiff, Nat.reduceDiv, Nat.reduceLT, Nat.reduceLeDiff, Nat.zero_add, reduceCtorEq, Bool.false_eq_true, Option.toList_some, Option.toList_none, List.cons_append, List.nil_append, not_true_eq_false, not_false_eq_true, Nat.sub_zero, dsX7_block, jsX7_block, xcX7_block, g0, hbi, hbc, e1, ↓sp_X7_bytes]
        rw [show k = ((eB (enc X.1)).length + 7) / 8 by omega]
        exact sw
      | succ d ih =>
        intro k hk
        have e1 : nI k < nI (((eB (enc X.1)).length + 7) / 8) := nI_lt (by omega) (by omega)
        have i1 : (nI k).toNatClampNeg = k := nI_clamp (by omega)
        have i2 : vp_in (nI k) 256 := vp_in_nI (by omega) (by decide)
        have i3 := hby k (by omega)
        refine e_g2 hG [(23, [0, 1, 2, 3, 4, 5])] 60 ?_
        simp only [e_wp_s, Option.getD_some, Option.isSome_some, Option.isSome_none, xis0, xis1, xis2, xis3, xis4, e_ks, lk_k, lk_c, List.lookup_nil, gt_c, vi_i, k1_n, k1_c, k2_n, k2_c, ar_n, ar_c, pk_n, pk_c, rm_0, rm_1, rm_2, rm_3, rm_4, rm_5, rc_9, rcs, fvs, rf_s, rf_n, isI_i, isL_l, isR_r, isR_n, isR_q, ct_i, ct_l, ct_r, ct_n, ct_q, tFs, tCs, tKs, tJs, tSs, e_nf, lgs, ↓reduceIte, true_and, and_true, false_and, and_false, or_true, true_or, false_or, or_false, Nat.reduceAdd, Nat.reduceEqDiff, Nat.reduceDiv, Nat.reduceLT, Nat.reduceLeDiff, Nat.zero_add, reduceCtorEq, Bool.false_eq_true, Option.toList_some, Option.toList_none, List.cons_append, List.nil_append, not_true_eq_false, not_false_eq_true, Nat.sub_zero, dsX7_block, jsX7_block, xcX7_block, g0, r245, k245, l245, hbi, hbc, e1, i1, i2, i3, nI_1, ↓sp_X7_bytes]
        exact ih (k + 1) (by omega)
    refine e_g2 hG [(23, [0, 1, 2, 3, 4, 5])] 60 ?_
    simp only [e_wp_s, Option.getD_some, Option.isSome_some, Option.isSome_none, xis0, xis1, xis2, xis3, xis4, e_ks, lk_k, lk_c, List.lookup_nil, gt_c, vi_i, k1_n, k1_c, k2_n, k2_c, ar_n, ar_c, pk_n, pk_c, rm_0, rm_1, rm_2, rm_3, rm_4, rm_5, rc_9, rcs, fvs, rf_s, rf_n, isI_i, isL_l, isR_r, isR_n, isR_q, ct_i, ct_l, ct_r, ct_n, ct_q, tFs, tCs, tKs, tJs, tSs, e_nf, lgs, ↓reduceIte, true_and, and_true, false_and, and_false, or_true, true_or, false_or, or_false, Nat.reduceAdd, Nat.reduceEqDiff, Nat.reduceDiv, Nat.reduceLT, Nat.reduceLeDiff, Nat.zero_add, reduceCtorEq, Bool.false_eq_true, Option.toList_some, Option.toList_none, List.cons_append, List.nil_append, not_true_eq_false, not_false_eq_true, Nat.sub_zero, dsX7_block, jsX7_block, xcX7_block]
    exact loop (((eB (enc X.1)).length + 7) / 8) 0 (by omega)
def csX7_about : CS := (cs_c 0 103 2 7 sp_X7_isSeries (cs_c 0 200 3 7 sp_X7_write (cs_c 0 187 2 7 sp_X7_tornBlocks cs_0)))
theorem csoX7_about : ∀ op x na cl sp, csX7_about op x = some (na, cl, sp) → CallOK 7 4 104 op x na cl sp := (cs_c_ok (caX7_about_103 okX7_isSeries) (cs_c_ok (caX7_about_200 okX7_write) (cs_c_ok (caX7_about_187 okX7_tornBlocks) cs_0_ok)))
theorem xcX7_about : (∀ (Q : QT) (G : GT) (pc : Nat) (L : LV) (a0 a1 : Value) (r : List Value) (M : HM) (k n : Nat), ex_i 7 5 1 false csX7_about Q G (.invokevirtual 103) pc L (a1 :: a0 :: r) M k n = (e_rm r ∧ e_rc M 7 [a0, a1] ∧ sp_X7_isSeries [a0, a1] M k n (fun v M' k' n' => G (pc + 3) L (v.toList ++ r) M' k' n'))) ∧ (∀ (Q : QT) (G : GT) (pc : Nat) (L : LV) (a0 a1 a2 : Value) (r : List Value) (M : HM) (k n : Nat), ex_i 7 5 1 false csX7_about Q G (.invokevirtual 200) pc L (a2 :: a1 :: a0 :: r) M k n = (e_rm r ∧ e_rc M 7 [a0, a1, a2] ∧ sp_X7_write [a0, a1, a2] M k n (fun v M' k' n' => G (pc + 3) L (v.toList ++ r) M' k' n'))) ∧ (∀ (Q : QT) (G : GT) (pc : Nat) (L : LV) (a0 a1 : Value) (r : List Value) (M : HM) (k n : Nat), ex_i 7 5 1 false csX7_about Q G (.invokevirtual 187) pc L (a1 :: a0 :: r) M k n = (e_rm r ∧ e_rc M 7 [a0, a1] ∧ sp_X7_tornBlocks [a0, a1] M k n (fun v M' k' n' => G (pc + 3) L (v.toList ++ r) M' k' n'))) := ⟨(fun _ _ _ _ _ _ _ _ _ _ => xv0_2 rfl), (fun _ _ _ _ _ _ _ _ _ _ _ => xv0_3 rfl), (fun _ _ _ _ _ _ _ _ _ _ => xv0_2 rfl)⟩
def sp_X7_about : SP := fun as M k n Q => match as with
  | [.ref m, .int i, .int w] => ∃ A O L z, MRp A O M m L z ∧ wft L ∧ ∀ U, MRp A O U m L z → Fr (Ss m) O O M U → Q (some (.int (aAbout L i w))) U k n
  | _ => False
theorem okX7_about : OkX7_about sp_X7_about := by
  refine inX7_about csoX7_about ?_
  intro as M k n Q hsp
  unfold sp_X7_about at hsp
  split at hsp
  rotate_left
  · exact hsp.elim
  rename_i m i w
  obtain ⟨A, O, L, z, hR, hwt, hq⟩ := hsp
  have hM := hR.1
  have hO := hR.2.1
  have h0 := hM.1
  have kc := hR.2.2.1.1
  refine ⟨0, 0, Nat.zero_le _, Nat.zero_le _, Nat.le_of_ble_eq_true rfl, fun G hG => ?_⟩
  unfold aAbout at hq
  by_cases c : i = -1 ∧ w = 0
  · rw [if_pos c] at hq
    obtain ⟨rfl, rfl⟩ := c
    refine e_g2 hG [] 40 ?_
    simp only [e_wp_s, Option.getD_some, Option.isSome_some, Option.isSome_none, xis0, xis1, xis2, xis3, xis4, e_ks, lk_k, lk_c, List.lookup_nil, gt_c, vi_i, k1_n, k1_c, k2_n, k2_c, ar_n, ar_c, pk_n, pk_c, rm_0, rm_1, rm_2, rm_3, rm_4, rm_5, rc_9, rcs, fvs, rf_s, rf_n, isI_i, isL_l, isR_r, isR_n, isR_q, ct_i, ct_l, ct_r, ct_n, ct_q, tFs, tCs, tKs, tJs, tSs, e_nf, lgs, ↓reduceIte, true_and, and_true, false_and, and_false, or_true, true_or, false_or, or_false, Nat.reduceAdd, Nat.reduceEqDiff, Nat.reduceDiv, Nat.reduceLT, Nat.reduceLeDiff, Nat.zero_add, reduceCtorEq, Bool.false_eq_true, Option.toList_some, Option.toList_none, List.cons_append, List.nil_append, not_true_eq_false, not_false_eq_true, Nat.sub_zero, dsX7_about, jsX7_about, xcX7_about, h0, kc]
    exact hq M hR Fr.rf
  · rw [if_neg c] at hq
    have main : G 14 [(0, .ref m), (1, .int i), (2, .int w)] [] M 0 0 := by
      rcases hR.at_ i with ⟨h1, h2⟩ | ⟨s, S, h1, rfl, h3, h4, h5, h6⟩
      · rw [h1] at hq
        refine e_g2 hG [] 40 ?_
        simp only [e_wp_s, Option.getD_some, Option.isSome_some, Option.isSome_none, xis0, xis1, xis2, xis3, xis4, e_ks, lk_k, lk_c, List.lookup_nil, gt_c, vi_i, k1_n, k1_c, k2_n, k2_c, ar_n, ar_c, pk_n, pk_c, rm_0, rm_1, rm_2, rm_3, rm_4, rm_5, rc_9, rcs, fvs, rf_s, rf_n, isI_i, isL_l, isR_r, isR_n, isR_q, ct_i, ct_l, ct_r, ct_n, ct_q, tFs, tCs, tKs, tJs, tSs, e_nf, lgs, ↓reduceIte, true_and, and_true, false_and, and_false, or_true, true_or, false_or, or_false, Nat.reduceAdd, Nat.reduceEqDiff, Nat.reduceDiv, Nat.reduceLT, Nat.reduceLeDiff, Nat.zero_add, reduceCtorEq, Bool.false_eq_true, Option.toList_some, Option.toList_none, List.cons_append, List.nil_append, not_true_eq_false, not_false_eq_true, Nat.sub_zero, dsX7_about, jsX7_about, xcX7_about, h0, h2, ↓sp_X7_isSeries]
        exact hq M hR Fr.rf
      · simp only [h1] at hq
        have sc : (nI s).toNatClampNeg = s := nI_clamp (by omega)
        have sv : vp_in (nI s) 8 := vp_in_nI h5 (by decide)
        obtain ⟨r225, k225, l225⟩ : mR M 225 m = some (A 225) ∧ mK M (A 225) = 9 ∧ mN M (A 225) = 8 := hM.2 225 rfl
        obtain ⟨r227, k227, l227⟩ : mR M 227 m = some (A 227) ∧ mK M (A 227) = 9 ∧ mN M (A 227) = 8 := hM.2 227 rfl
        obtain ⟨r228, k228, l228⟩ : mR M 228 m = some (A 228) ∧ mK M (A 228) = 9 ∧ mN M (A 228) = 8 := hM.2 228 rfl
        obtain ⟨r229, k229, l229⟩ : mR M 229 m = some (A 229) ∧ mK M (A 229) = 9 ∧ mN M (A 229) = 8 := hM.2 229 rfl
        obtain ⟨r230, k230, l230⟩ : mR M 230 m = some (A 230) ∧ mK M (A 230) = 9 ∧ mN M (A 230) = 8 := hM.2 230 rfl
        have hq0 := hq M hR Fr.rf
        have v0 : aI M (A 225) s = S.1 := h4.1.1
        have v1 := h4.2.2.1.1
        have v2 := h4.2.2.2.2.1
        have v3 := h4.2.2.2.1.1
        have v4 := h4.2.1.1
        have b300 := h4.2.2.1.2.1
        have h6' : w = 6 → sp_X7_tornBlocks [.ref m, .int (nI s)] M 0 0 (fun v M' k' n' => G 146 [] (v.toList ++ []) M' k' n') := fun e => by
          refine ⟨A, s, _, hM, h5, h4.2.2.1, rfl, ?_⟩
          refine e_g2 hG [] 20 ?_
          simp only [e_wp_s, Option.getD_some, Option.isSome_some, Option.isSome_none, xis0, xis1, xis2, xis3, xis4, e_ks, lk_k, lk_c, List.lookup_nil, gt_c, vi_i, k1_n, k1_c, k2_n, k2_c, ar_n, ar_c, pk_n, pk_c, rm_0, rm_1, rm_2, rm_3, rm_4, rm_5, rc_9, rcs, fvs, rf_s, rf_n, isI_i, isL_l, isR_r, isR_n, isR_q, ct_i, ct_l, ct_r, ct_n, ct_q, tFs, tCs, tKs, tJs, tSs, e_nf, lgs, ↓reduceIte, true_and, and_true, false_and, and_false, or_true, true_or, false_or, or_false, Nat.reduceAdd, Nat.reduceEqDiff, Nat.reduceDiv, Nat.reduceLT, Nat.reduceLeDiff, Nat.zero_add, reduceCtorEq, Bool.false_eq_true, Option.toList_some, Option.toList_none, List.cons_append, List.nil_append, not_true_eq_false, not_false_eq_true, Nat.sub_zero, dsX7_about, jsX7_about, xcX7_about]
          subst e; simpa [aAbt] using hq0
        have h5' : w = 5 → G 103 [(0, .ref m), (1, .int (nI s))] [] M 0 0 := fun e => by
          subst e
          have loop : ∀ d b U, b + d = S.2.2.2.1.length → MC O A m [245, 246, 247] M U → G 108 [(0, .ref m), (1, .int (nI s)), (3, .int (nI (bitsN (S.2.2.2.1.take b)))), (4, .int (nI b))] [] U 0 0 := by
            intro d
            induction d with
            | zero =>
              intro b U hb hC
              have hRU := hR.scr hC.w3
              have hMU := hC.ms hM
              have g0 := hMU.1
              obtain ⟨ru228, ku228, lu228⟩ : mR U 228 m = some (A 228) ∧ mK U (A 228) = 9 ∧ mN U (A 228) = 8 := hMU.2 228 rfl
              have u1 := (hRU.2.2.2.1 s S h3).2.2.1.1
              have e1 : ¬ nI b < nI S.2.2.2.1.length := nI_nlt (by omega) (by omega)
              have hq := hq U hRU hC.2.2.2.1
              refine e_g2 hG [] 60 ?_
              simp only [e_wp_s, Option.getD_some, Option.isSome_some, Option.isSome_none, xis0, xis1, xis2, xis3, xis4, e_ks, lk_k, lk_c, List.lookup_nil, gt_c, vi_i, k1_n, k1_c, k2_n, k2_c, ar_n, ar_c, pk_n, pk_c, rm_0, rm_1, rm_2, rm_3, rm_4, rm_5, rc_9, rcs, fvs, rf_s, rf_n, isI_i, isL_l, isR_r, isR_n, isR_q, ct_i, ct_l, ct_r, ct_n, ct_q, tFs, tCs, tKs, tJs, tSs, e_nf, lgs, ↓reduceIte, true_and, and_true, false_and, and_false, or_true, true_or, false_or, or_false, Nat.reduceAdd, Nat.reduceEqDiff, Nat.reduceDiv, Nat.reduceLT, Nat.reduceLeDiff, Nat.zero_add, reduceCtorEq, Bool.false_eq_true, Option.toList_some, Option.toList_none, List.cons_append, List.nil_append, not_true_eq_false, not_false_eq_true, Nat.sub_zero, dsX7_about, jsX7_about, xcX7_about, g0, ru228, ku228, lu228, sc, sv, u1, e1]
              rw [show b = S.2.2.2.1.length by omega, List.take_length]
              simpa [aAbt] using hq
            | succ d ih =>
              intro b U hb hC
              have hRU := hR.scr hC.w3
              have hMU := hC.ms hM
              have g0 := hMU.1
              obtain ⟨ru228, ku228, lu228⟩ : mR U 228 m = some (A 228) ∧ mK U (A 228) = 9 ∧ mN U (A 228) = 8 := hMU.2 228 rfl
              obtain ⟨y1, y2, y3, y4, y5⟩ := hRU.2.2.2.1 s S h3
              have u1 := y3.1
              have e1 : nI b < nI S.2.2.2.1.length := nI_lt (by omega) (by omega)
              obtain ⟨X, hx⟩ : ∃ X, S.2.2.2.1[b]? = some X := ⟨_, List.getElem?_eq_getElem (by omega)⟩
              have htm := tmO_blk (hwt S (List.mem_of_getElem? h3)) hx
              have hbn : bitsN (S.2.2.2.1.take (b + 1)) = bitsN (S.2.2.2.1.take b) + (eB (enc X.1)).length := by
                unfold bitsN; rw [take_1 hx, List.map_append, List.sum_append]; simp
              have ih2 := ih (b + 1)
              rw [hbn] at ih2
              refine e_g2 hG [(126, [0, 1, 3, 4])] 60 ?_
              simp only [e_wp_s, Option.getD_some, Option.isSome_some, Option.isSome_none, xis0, xis1, xis2, xis3, xis4, e_ks, lk_k, lk_c, List.lookup_nil, gt_c, vi_i, k1_n, k1_c, k2_n, k2_c, ar_n, ar_c, pk_n, pk_c, rm_0, rm_1, rm_2, rm_3, rm_4, rm_5, rc_9, rcs, fvs, rf_s, rf_n, isI_i, isL_l, isR_r, isR_n, isR_q, ct_i, ct_l, ct_r, ct_n, ct_q, tFs, tCs, tKs, tJs, tSs, e_nf, lgs, ↓reduceIte, true_and, and_true, false_and, and_false, or_true, true_or, false_or, or_false, Nat.reduceAdd, Nat.reduceEqDiff, Nat.reduceDiv, Nat.reduceLT, Nat.reduceLeDiff, Nat.zero_add, reduceCtorEq, Bool.false_eq_true, Option.toList_some, Option.toList_none, List.cons_append, List.nil_append, not_true_eq_false, not_false_eq_true, Nat.sub_zero, dsX7_about, jsX7_about, xcX7_about, g0, ru228, ku228, lu228, sc, sv, u1, e1]
              refine ⟨O, A, s, b, _, X, hMU, hO, h5, y3, y2, rfl, rfl, hx, htm, fun U2 hC2 hby hbi hco => ?_⟩
              have g2 := (hC2.ms hMU).1
              refine e_g2 hG [(108, [0, 1, 3, 4])] 60 ?_
              simp only [e_wp_s, Option.getD_some, Option.isSome_some, Option.isSome_none, xis0, xis1, xis2, xis3, xis4, e_ks, lk_k, lk_c, List.lookup_nil, gt_c, vi_i, k1_n, k1_c, k2_n, k2_c, ar_n, ar_c, pk_n, pk_c, rm_0, rm_1, rm_2, rm_3, rm_4, rm_5, rc_9, rcs, fvs, rf_s, rf_n, isI_i, isL_l, isR_r, isR_n, isR_q, ct_i, ct_l, ct_r, ct_n, ct_q, tFs, tCs, tKs, tJs, tSs, e_nf, lgs, ↓reduceIte, true_and, and_true, false_and, and_false, or_true, true_or, false_or, or_false, Nat.reduceAdd, Nat.reduceEqDiff, Nat.reduceDiv, Nat.reduceLT, Nat.reduceLeDiff, Nat.zero_add, reduceCtorEq, Bool.false_eq_true, Option.toList_some, Option.toList_none, List.cons_append, List.nil_append, not_true_eq_false, not_false_eq_true, Nat.sub_zero, dsX7_about, jsX7_about, xcX7_about, g2, hbi, nI_add, nI_1]
              exact ih2 U2 (by omega) (hC.tr hC2)
          refine e_g2 hG [(108, [0, 1, 3, 4])] 60 ?_
          simp only [e_wp_s, Option.getD_some, Option.isSome_some, Option.isSome_none, xis0, xis1, xis2, xis3, xis4, e_ks, lk_k, lk_c, List.lookup_nil, gt_c, vi_i, k1_n, k1_c, k2_n, k2_c, ar_n, ar_c, pk_n, pk_c, rm_0, rm_1, rm_2, rm_3, rm_4, rm_5, rc_9, rcs, fvs, rf_s, rf_n, isI_i, isL_l, isR_r, isR_n, isR_q, ct_i, ct_l, ct_r, ct_n, ct_q, tFs, tCs, tKs, tJs, tSs, e_nf, lgs, ↓reduceIte, true_and, and_true, false_and, and_false, or_true, true_or, false_or, or_false, Nat.reduceAdd, Nat.reduceEqDiff, Nat.reduceDiv, Nat.reduceLT, Nat.reduceLeDiff, Nat.zero_add, reduceCtorEq, Bool.false_eq_true, Option.toList_some, Option.toList_none, List.cons_append, List.nil_append, not_true_eq_false, not_false_eq_true, Nat.sub_zero, dsX7_about, jsX7_about, xcX7_about]
          exact loop S.2.2.2.1.length 0 M (by omega) MC.rf
        refine e_g2 hG [(146, []), (103, [0, 1])] 40 ?_
        simp only [e_wp_s, Option.getD_some, Option.isSome_some, Option.isSome_none, xis0, xis1, xis2, xis3, xis4, e_ks, lk_k, lk_c, List.lookup_nil, gt_c, vi_i, k1_n, k1_c, k2_n, k2_c, ar_n, ar_c, pk_n, pk_c, rm_0, rm_1, rm_2, rm_3, rm_4, rm_5, rc_9, rcs, fvs, rf_s, rf_n, isI_i, isL_l, isR_r, isR_n, isR_q, ct_i, ct_l, ct_r, ct_n, ct_q, tFs, tCs, tKs, tJs, tSs, e_nf, lgs, ↓reduceIte, true_and, and_true, false_and, and_false, or_true, true_or, false_or, or_false, Nat.reduceAdd, Nat.reduceEqDiff, Nat.reduceDiv, Nat.reduceLT, Nat.reduceLeDiff, Nat.zero_add, reduceCtorEq, Bool.false_eq_true, Option.toList_some, Option.toList_none, List.cons_append, List.nil_append, not_true_eq_false, not_false_eq_true, Nat.sub_zero, dsX7_about, jsX7_about, xcX7_about, h0, h6, i10, r225, k225, l225, r227, k227, l227, r228, k228, l228, r229, k229, l229, r230, k230, l230, sc, sv, v0, v1, v2, v3, v4, ↓sp_X7_isSeries, e_tw, e_lw, Int.reduceAdd, tis]
        refine ⟨rfl, ?_⟩
        by_cases c5 : w = 5
        · have := h5' c5
          subst c5; simpa using this
        by_cases c6 : w = 6
        · have := h6' c6
          subst c6; simpa using this
        unfold aAbt at hq0
        by_cases c0 : w = 0
        · subst c0; simpa using hq0
        by_cases c1 : w = 1
        · subst c1; simpa using hq0
        by_cases c2 : w = 2
        · subst c2; simpa using hq0
        by_cases c3 : w = 3
        · subst c3; simpa using hq0
        by_cases c4 : w = 4
        · subst c4; simpa using hq0
        simpa [c0, c1, c2, c3, c4, c5, c6] using hq0
    by_cases c1 : i = -1
    · have c2 : ¬ w = 0 := fun e => c ⟨c1, e⟩
      subst c1
      refine e_g2 hG [(14, [0, 1, 2])] 40 ?_
      simp only [e_wp_s, Option.getD_some, Option.isSome_some, Option.isSome_none, xis0, xis1, xis2, xis3, xis4, e_ks, lk_k, lk_c, List.lookup_nil, gt_c, vi_i, k1_n, k1_c, k2_n, k2_c, ar_n, ar_c, pk_n, pk_c, rm_0, rm_1, rm_2, rm_3, rm_4, rm_5, rc_9, rcs, fvs, rf_s, rf_n, isI_i, isL_l, isR_r, isR_n, isR_q, ct_i, ct_l, ct_r, ct_n, ct_q, tFs, tCs, tKs, tJs, tSs, e_nf, lgs, ↓reduceIte, true_and, and_true, false_and, and_false, or_true, true_or, false_or, or_false, Nat.reduceAdd, Nat.reduceEqDiff, Nat.reduceDiv, Nat.reduceLT, Nat.reduceLeDiff, Nat.zero_add, reduceCtorEq, Bool.false_eq_true, Option.toList_some, Option.toList_none, List.cons_append, List.nil_append, not_true_eq_false, not_false_eq_true, Nat.sub_zero, dsX7_about, jsX7_about, xcX7_about, c2]
      exact main
    · refine e_g2 hG [(14, [0, 1, 2])] 40 ?_
      simp only [e_wp_s, Option.getD_some, Option.isSome_some, Option.isSome_none, xis0, xis1, xis2, xis3, xis4, e_ks, lk_k, lk_c, List.lookup_nil, gt_c, vi_i, k1_n, k1_c, k2_n, k2_c, ar_n, ar_c, pk_n, pk_c, rm_0, rm_1, rm_2, rm_3, rm_4, rm_5, rc_9, rcs, fvs, rf_s, rf_n, isI_i, isL_l, isR_r, isR_n, isR_q, ct_i, ct_l, ct_r, ct_n, ct_q, tFs, tCs, tKs, tJs, tSs, e_nf, lgs, ↓reduceIte, true_and, and_true, false_and, and_false, or_true, true_or, false_or, or_false, Nat.reduceAdd, Nat.reduceEqDiff, Nat.reduceDiv, Nat.reduceLT, Nat.reduceLeDiff, Nat.zero_add, reduceCtorEq, Bool.false_eq_true, Option.toList_some, Option.toList_none, List.cons_append, List.nil_append, not_true_eq_false, not_false_eq_true, Nat.sub_zero, dsX7_about, jsX7_about, xcX7_about, c1]
      exact main
theorem mx_e (v h : Int64) : (if h < v then v else h) = if v < h then h else v := by
  by_cases c1 : h < v
  · rw [if_pos c1, if_neg (fun c2 => Int64.lt_irrefl (Int64.lt_trans c1 c2))]
  · rw [if_neg c1]
    by_cases c2 : v < h
    · rw [if_pos c2]
    · rw [if_neg c2]
      exact Int64.le_antisymm (Int64.not_lt.mp c2) (Int64.not_lt.mp c1)
def csX7_head : CS := (cs_c 0 197 3 7 sp_X7_isBlock (cs_c 0 115 3 7 sp_X7_start (cs_c 0 111 3 7 sp_X7_spot cs_0)))
theorem csoX7_head : ∀ op x na cl sp, csX7_head op x = some (na, cl, sp) → CallOK 7 2 46 op x na cl sp := (cs_c_ok (caX7_head_197 okX7_isBlock) (cs_c_ok (caX7_head_115 okX7_start) (cs_c_ok (caX7_head_111 okX7_spot) cs_0_ok)))
theorem xcX7_head : (∀ (Q : QT) (G : GT) (pc : Nat) (L : LV) (a0 a1 a2 : Value) (r : List Value) (M : HM) (k n : Nat), ex_i 7 12 2 false csX7_head Q G (.invokevirtual 197) pc L (a2 :: a1 :: a0 :: r) M k n = (e_rm r ∧ e_rc M 7 [a0, a1, a2] ∧ sp_X7_isBlock [a0, a1, a2] M k n (fun v M' k' n' => G (pc + 3) L (v.toList ++ r) M' k' n'))) ∧ (∀ (Q : QT) (G : GT) (pc : Nat) (L : LV) (a0 a1 a2 : Value) (r : List Value) (M : HM) (k n : Nat), ex_i 7 12 2 false csX7_head Q G (.invokevirtual 115) pc L (a2 :: a1 :: a0 :: r) M k n = (e_rm r ∧ e_rc M 7 [a0, a1, a2] ∧ sp_X7_start [a0, a1, a2] M k n (fun v M' k' n' => G (pc + 3) L (v.toList ++ r) M' k' n'))) ∧ (∀ (Q : QT) (G : GT) (pc : Nat) (L : LV) (a0 a1 a2 : Value) (r : List Value) (M : HM) (k n : Nat), ex_i 7 12 2 false csX7_head Q G (.invokevirtual 111) pc L (a2 :: a1 :: a0 :: r) M k n = (e_rm r ∧ e_rc M 7 [a0, a1, a2] ∧ sp_X7_spot [a0, a1, a2] M k n (fun v M' k' n' => G (pc + 3) L (v.toList ++ r) M' k' n'))) := ⟨(fun _ _ _ _ _ _ _ _ _ _ _ => xv0_3 rfl), (fun _ _ _ _ _ _ _ _ _ _ _ => xv0_3 rfl), (fun _ _ _ _ _ _ _ _ _ _ _ => xv0_3 rfl)⟩
def sp_X7_head : SP := fun as M k n Q => match as with
  | [.ref m, .int i, .int j, .int w] => ∃ A O L z, MRp A O M m L z ∧ Q (some (.long (aHead L i j w))) M k n
  | _ => False
theorem okX7_head : OkX7_head sp_X7_head := by
  refine inX7_head csoX7_head ?_
  intro as M k n Q hsp
  unfold sp_X7_head at hsp
  split at hsp
  rotate_left
  · exact hsp.elim
  rename_i m i j w
  obtain ⟨A, O, L, z, hR, hq⟩ := hsp
  have hM := hR.1
  have h0 := hM.1
  obtain ⟨r232, k232, l232⟩ : mR M 232 m = some (A 232) ∧ mK M (A 232) = 9 ∧ mN M (A 232) = 2560 := hM.2 232 rfl
  obtain ⟨r234, k234, l234⟩ : mR M 234 m = some (A 234) ∧ mK M (A 234) = 10 ∧ mN M (A 234) = 2560 := hM.2 234 rfl
  refine ⟨0, 0, Nat.zero_le _, Nat.zero_le _, Nat.le_of_ble_eq_true rfl, fun G hG => ?_⟩
  unfold aHead at hq
  refine e_g2 hG [(6, [0, 1, 2, 3])] 60 ?_
  simp only [e_wp_s, Option.getD_some, Option.isSome_some, Option.isSome_none, xis0, xis1, xis2, xis3, xis4, e_ks, lk_k, lk_c, List.lookup_nil, gt_c, vi_i, k1_n, k1_c, k2_n, k2_c, ar_n, ar_c, pk_n, pk_c, rm_0, rm_1, rm_2, rm_3, rm_4, rm_5, rc_9, rcs, fvs, rf_s, rf_n, isI_i, isL_l, isR_r, isR_n, isR_q, ct_i, ct_l, ct_r, ct_n, ct_q, tFs, tCs, tKs, tJs, tSs, e_nf, lgs, ↓reduceIte, true_and, and_true, false_and, and_false, or_true, true_or, false_or, or_false, Nat.reduceAdd, Nat.reduceEqDiff, Nat.reduceDiv, Nat.reduceLT, Nat.reduceLeDiff, Nat.zero_add, reduceCtorEq, Bool.false_eq_true, Option.toList_some, Option.toList_none, List.cons_append, List.nil_append, not_true_eq_false, not_false_eq_true, Nat.sub_zero, dsX7_head, jsX7_head, xcX7_head, h0]
  refine ⟨A, O, L, z, hR, ?_⟩
  rcases hR.bk i j with hb | ⟨s, S, b, X, hb, -, rfl, h3, rfl, h5, h6, h7, h8, -⟩
  · rw [hb] at hq ⊢
    refine e_g2 hG [] 60 ?_
    simp only [e_wp_s, Option.getD_some, Option.isSome_some, Option.isSome_none, xis0, xis1, xis2, xis3, xis4, e_ks, lk_k, lk_c, List.lookup_nil, gt_c, vi_i, k1_n, k1_c, k2_n, k2_c, ar_n, ar_c, pk_n, pk_c, rm_0, rm_1, rm_2, rm_3, rm_4, rm_5, rc_9, rcs, fvs, rf_s, rf_n, isI_i, isL_l, isR_r, isR_n, isR_q, ct_i, ct_l, ct_r, ct_n, ct_q, tFs, tCs, tKs, tJs, tSs, e_nf, lgs, ↓reduceIte, true_and, and_true, false_and, and_false, or_true, true_or, false_or, or_false, Nat.reduceAdd, Nat.reduceEqDiff, Nat.reduceDiv, Nat.reduceLT, Nat.reduceLeDiff, Nat.zero_add, reduceCtorEq, Bool.false_eq_true, Option.toList_some, Option.toList_none, List.cons_append, List.nil_append, not_true_eq_false, not_false_eq_true, Nat.sub_zero, dsX7_head, jsX7_head, xcX7_head]
    exact hq
  · simp only [hb] at hq
    rw [hb]
    have hsz := (h6.2.2.1.2.2.1 b X h5).1
    obtain ⟨hxn, h16, -⟩ := h6.2.2.1.2.2.2 X (List.mem_of_getElem? h5)
    have hbl := (List.getElem?_eq_some_iff.mp h5).1
    have f2 : (nI (320 * s + b)).toNatClampNeg = 320 * s + b := nI_clamp (by omega)
    have f3 : vp_in (nI (320 * s + b)) 2560 := vp_in_nI (by omega) (by decide)
    by_cases d0 : w < 0
    · have e0 : ¬ w = 0 := fun e => by rw [e] at d0; exact absurd d0 (by decide)
      have e1 : ¬ w = 1 := fun e => by rw [e] at d0; exact absurd d0 (by decide)
      have e2 : ¬ w = 2 := fun e => by rw [e] at d0; exact absurd d0 (by decide)
      unfold aHed at hq
      rw [if_neg e0, if_neg e1, if_neg e2] at hq
      refine e_g2 hG [] 60 ?_
      simp only [e_wp_s, Option.getD_some, Option.isSome_some, Option.isSome_none, xis0, xis1, xis2, xis3, xis4, e_ks, lk_k, lk_c, List.lookup_nil, gt_c, vi_i, k1_n, k1_c, k2_n, k2_c, ar_n, ar_c, pk_n, pk_c, rm_0, rm_1, rm_2, rm_3, rm_4, rm_5, rc_9, rcs, fvs, rf_s, rf_n, isI_i, isL_l, isR_r, isR_n, isR_q, ct_i, ct_l, ct_r, ct_n, ct_q, tFs, tCs, tKs, tJs, tSs, e_nf, lgs, ↓reduceIte, true_and, and_true, false_and, and_false, or_true, true_or, false_or, or_false, Nat.reduceAdd, Nat.reduceEqDiff, Nat.reduceDiv, Nat.reduceLT, Nat.reduceLeDiff, Nat.zero_add, reduceCtorEq, Bool.false_eq_true, Option.toList_some, Option.toList_none, List.cons_append, List.nil_append, not_true_eq_false, not_false_eq_true, Nat.sub_zero, dsX7_head, jsX7_head, xcX7_head, i10, d0]
      exact hq
    by_cases d1 : 2 < w
    · have e0 : ¬ w = 0 := fun e => by rw [e] at d1; exact absurd d1 (by decide)
      have e1 : ¬ w = 1 := fun e => by rw [e] at d1; exact absurd d1 (by decide)
      have e2 : ¬ w = 2 := fun e => by rw [e] at d1; exact absurd d1 (by decide)
      unfold aHed at hq
      rw [if_neg e0, if_neg e1, if_neg e2] at hq
      refine e_g2 hG [] 60 ?_
      simp only [e_wp_s, Option.getD_some, Option.isSome_some, Option.isSome_none, xis0, xis1, xis2, xis3, xis4, e_ks, lk_k, lk_c, List.lookup_nil, gt_c, vi_i, k1_n, k1_c, k2_n, k2_c, ar_n, ar_c, pk_n, pk_c, rm_0, rm_1, rm_2, rm_3, rm_4, rm_5, rc_9, rcs, fvs, rf_s, rf_n, isI_i, isL_l, isR_r, isR_n, isR_q, ct_i, ct_l, ct_r, ct_n, ct_q, tFs, tCs, tKs, tJs, tSs, e_nf, lgs, ↓reduceIte, true_and, and_true, false_and, and_false, or_true, true_or, false_or, or_false, Nat.reduceAdd, Nat.reduceEqDiff, Nat.reduceDiv, Nat.reduceLT, Nat.reduceLeDiff, Nat.zero_add, reduceCtorEq, Bool.false_eq_true, Option.toList_some, Option.toList_none, List.cons_append, List.nil_append, not_true_eq_false, not_false_eq_true, Nat.sub_zero, dsX7_head, jsX7_head, xcX7_head, i10, d0, d1]
      exact hq
    obtain ⟨p0, hp0, -⟩ := first_T hxn
    have hat : ∀ k p, X.1[k]? = some p → aL M (A 234) (320 * s + (mpts (S.2.2.2.1.take b)).length + k) = p.2 ∧ k < X.1.length ∧ (mpts (S.2.2.2.1.take b)).length + k < 300 := fun k p hk => by
      have hkl := (List.getElem?_eq_some_iff.mp hk).1
      have h1 := mpts_at h5 hkl
      rw [hk] at h1
      obtain ⟨w1, w2, w3, w4⟩ := mP_at h6.2.1 h1
      rw [Nat.add_assoc]
      exact ⟨w2, hkl, w4⟩
    generalize hst : (mpts (S.2.2.2.1.take b)).length = st at *
    obtain ⟨a0, a1, a2⟩ := hat 0 p0 hp0
    rw [Nat.add_zero] at a0
    have i1 : (nI (320 * s + st)).toNatClampNeg = 320 * s + st := nI_clamp (by omega)
    have i2 : vp_in (nI (320 * s + st)) 2560 := vp_in_nI (by omega) (by decide)
    refine e_g2 hG [(28, [0, 1, 2, 3])] 60 ?_
    simp only [e_wp_s, Option.getD_some, Option.isSome_some, Option.isSome_none, xis0, xis1, xis2, xis3, xis4, e_ks, lk_k, lk_c, List.lookup_nil, gt_c, vi_i, k1_n, k1_c, k2_n, k2_c, ar_n, ar_c, pk_n, pk_c, rm_0, rm_1, rm_2, rm_3, rm_4, rm_5, rc_9, rcs, fvs, rf_s, rf_n, isI_i, isL_l, isR_r, isR_n, isR_q, ct_i, ct_l, ct_r, ct_n, ct_q, tFs, tCs, tKs, tJs, tSs, e_nf, lgs, ↓reduceIte, true_and, and_true, false_and, and_false, or_true, true_or, false_or, or_false, Nat.reduceAdd, Nat.reduceEqDiff, Nat.reduceDiv, Nat.reduceLT, Nat.reduceLeDiff, Nat.zero_add, reduceCtorEq, Bool.false_eq_true, Option.toList_some, Option.toList_none, List.cons_append, List.nil_append, not_true_eq_false, not_false_eq_true, Nat.sub_zero, dsX7_head, jsX7_head, xcX7_head, h0, i10, d0, d1]
    refine ⟨A, s, b, _, hM, h7, h6.2.2.1, rfl, rfl, by omega, ?_⟩
    rw [hst]
    have loop : ∀ d k lo hi, k + d = X.1.length → (0 < k → lo = low (X.1.take k) ∧ hi = high (X.1.take k)) → (k = 0 → lo = p0.2 ∧ hi = p0.2) → G 55 [(0, .ref m), (1, .int (nI s)), (2, .int (nI b)), (3, .int w), (4, .int (nI (320 * s + st))), (5, .long (tot (X.1.take k))), (7, .long lo), (9, .long hi), (11, .int (nI (320 * s + st + k)))] [] M 0 0 := by
      intro d
      induction d with
      | zero =>
        intro k lo hi hk h1 h2
        have e1 : ¬ nI (320 * s + st + k) < nI (320 * s + st + X.1.length) := nI_nlt (by omega) (by omega)
        have hk0 : 0 < k := by
          have : 0 < X.1.length := a1
          omega
        obtain ⟨r1, r2⟩ := h1 hk0
        rw [List.take_of_length_le (by omega)] at r1 r2
        rw [List.take_of_length_le (show X.1.length ≤ k by omega)]
        subst r1 r2
        unfold aHed at hq
        by_cases c0 : w = 0
        · subst c0
          refine e_g2 hG [] 60 ?_
          simp only [e_wp_s, Option.getD_some, Option.isSome_some, Option.isSome_none, xis0, xis1, xis2, xis3, xis4, e_ks, lk_k, lk_c, List.lookup_nil, gt_c, vi_i, k1_n, k1_c, k2_n, k2_c, ar_n, ar_c, pk_n, pk_c, rm_0, rm_1, rm_2, rm_3, rm_4, rm_5, rc_9, rcs, fvs, rf_s, rf_n, isI_i, isL_l, isR_r, isR_n, isR_q, ct_i, ct_l, ct_r, ct_n, ct_q, tFs, tCs, tKs, tJs, tSs, e_nf, lgs, ↓reduceIte, true_and, and_true, false_and, and_false, or_true, true_or, false_or, or_false, Nat.reduceAdd, Nat.reduceEqDiff, Nat.reduceDiv, Nat.reduceLT, Nat.reduceLeDiff, Nat.zero_add, reduceCtorEq, Bool.false_eq_true, Option.toList_some, Option.toList_none, List.cons_append, List.nil_append, not_true_eq_false, not_false_eq_true, Nat.sub_zero, dsX7_head, jsX7_head, xcX7_head, h0, r232, k232, l232, f2, f3, hsz, nI_add, e1, ↓sp_X7_spot, spt]
          simpa using hq
        by_cases c1 : w = 1
        · subst c1
          refine e_g2 hG [] 60 ?_
          simp only [e_wp_s, Option.getD_some, Option.isSome_some, Option.isSome_none, xis0, xis1, xis2, xis3, xis4, e_ks, lk_k, lk_c, List.lookup_nil, gt_c, vi_i, k1_n, k1_c, k2_n, k2_c, ar_n, ar_c, pk_n, pk_c, rm_0, rm_1, rm_2, rm_3, rm_4, rm_5, rc_9, rcs, fvs, rf_s, rf_n, isI_i, isL_l, isR_r, isR_n, isR_q, ct_i, ct_l, ct_r, ct_n, ct_q, tFs, tCs, tKs, tJs, tSs, e_nf, lgs, ↓reduceIte, true_and, and_true, false_and, and_false, or_true, true_or, false_or, or_false, Nat.reduceAdd, Nat.reduceEqDiff, Nat.reduceDiv, Nat.reduceLT, Nat.reduceLeDiff, Nat.zero_add, reduceCtorEq, Bool.false_eq_true, Option.toList_some, Option.toList_none, List.cons_append, List.nil_append, not_true_eq_false, not_false_eq_true, Nat.sub_zero, dsX7_head, jsX7_head, xcX7_head, h0, r232, k232, l232, f2, f3, hsz, nI_add, e1, i10, ↓sp_X7_spot, spt]
          simpa using hq
        · have c2 : w = 2 := by
            rw [Int32.lt_iff_toInt_lt] at d0 d1
            rw [show (0 : Int32).toInt = 0 from rfl] at d0
            rw [show (2 : Int32).toInt = 2 from rfl] at d1
            have b0 : w.toInt ≠ 0 := fun e => c0 (Int32.toInt_inj.mp (e.trans (show (0 : Int) = (0 : Int32).toInt from rfl)))
            have b1 : w.toInt ≠ 1 := fun e => c1 (Int32.toInt_inj.mp (e.trans (show (1 : Int) = (1 : Int32).toInt from rfl)))
            apply Int32.toInt_inj.mp
            rw [show (2 : Int32).toInt = 2 from rfl]; omega
          rw [if_neg c0, if_neg c1, if_pos c2] at hq
          refine e_g2 hG [] 60 ?_
          simp only [e_wp_s, Option.getD_some, Option.isSome_some, Option.isSome_none, xis0, xis1, xis2, xis3, xis4, e_ks, lk_k, lk_c, List.lookup_nil, gt_c, vi_i, k1_n, k1_c, k2_n, k2_c, ar_n, ar_c, pk_n, pk_c, rm_0, rm_1, rm_2, rm_3, rm_4, rm_5, rc_9, rcs, fvs, rf_s, rf_n, isI_i, isL_l, isR_r, isR_n, isR_q, ct_i, ct_l, ct_r, ct_n, ct_q, tFs, tCs, tKs, tJs, tSs, e_nf, lgs, ↓reduceIte, true_and, and_true, false_and, and_false, or_true, true_or, false_or, or_false, Nat.reduceAdd, Nat.reduceEqDiff, Nat.reduceDiv, Nat.reduceLT, Nat.reduceLeDiff, Nat.zero_add, reduceCtorEq, Bool.false_eq_true, Option.toList_some, Option.toList_none, List.cons_append, List.nil_append, not_true_eq_false, not_false_eq_true, Nat.sub_zero, dsX7_head, jsX7_head, xcX7_head, h0, r232, k232, l232, f2, f3, hsz, nI_add, e1, c0, c1, ↓sp_X7_spot, spt]
          exact hq
      | succ d ih =>
        intro k lo hi hk h1 h2
        have e1 : nI (320 * s + st + k) < nI (320 * s + st + X.1.length) := nI_lt (by omega) (by omega)
        obtain ⟨p, hp⟩ : ∃ p, X.1[k]? = some p := ⟨_, List.getElem?_eq_getElem (by omega)⟩
        obtain ⟨b0, b1, b2⟩ := hat k p hp
        have j1 : (nI (320 * s + st + k)).toNatClampNeg = 320 * s + st + k := nI_clamp (by omega)
        have j2 : vp_in (nI (320 * s + st + k)) 2560 := vp_in_nI (by omega) (by decide)
        have htk := take_1 hp
        have hlo : (if p.2 < lo then p.2 else lo) = low (X.1.take (k + 1)) := by
          by_cases ck : k = 0
          · obtain ⟨r1, -⟩ := h2 ck
            subst ck
            rw [hp0] at hp; cases hp
            rw [htk, r1, List.take_zero, if_neg (Int64.lt_irrefl)]; rfl
          · obtain ⟨r1, -⟩ := h1 (by omega)
            rw [htk, r1, low_snoc p (fun e => by have := congrArg List.length e; rw [List.length_take, List.length_nil] at this; omega)]
        have hhi : (if hi < p.2 then p.2 else hi) = high (X.1.take (k + 1)) := by
          by_cases ck : k = 0
          · obtain ⟨-, r2⟩ := h2 ck
            subst ck
            rw [hp0] at hp; cases hp
            rw [htk, r2, List.take_zero, if_neg (Int64.lt_irrefl)]; rfl
          · obtain ⟨-, r2⟩ := h1 (by omega)
            rw [htk, r2, mx_e, high_snoc p (fun e => by have := congrArg List.length e; rw [List.length_take, List.length_nil] at this; omega)]
        have htt : tot (X.1.take k) + p.2 = tot (X.1.take (k + 1)) := by rw [htk, tot_snoc]
        have ih2 := ih (k + 1) _ _ (by omega) (fun _ => ⟨rfl, rfl⟩) (fun q => by omega)
        rw [← htt, ← hlo, ← hhi] at ih2
        have s3 : G 113 [(0, .ref m), (1, .int (nI s)), (2, .int (nI b)), (3, .int w), (4, .int (nI (320 * s + st))), (5, .long (tot (X.1.take k) + p.2)), (7, .long (if p.2 < lo then p.2 else lo)), (9, .long hi), (11, .int (nI (320 * s + st + k)))] [] M 0 0 := by
          by_cases g2 : hi < p.2
          · rw [if_pos g2] at ih2
            refine e_g2 hG [(55, [0, 1, 2, 3, 4, 5, 7, 9, 11])] 60 ?_
            simp only [e_wp_s, Option.getD_some, Option.isSome_some, Option.isSome_none, xis0, xis1, xis2, xis3, xis4, e_ks, lk_k, lk_c, List.lookup_nil, gt_c, vi_i, k1_n, k1_c, k2_n, k2_c, ar_n, ar_c, pk_n, pk_c, rm_0, rm_1, rm_2, rm_3, rm_4, rm_5, rc_9, rcs, fvs, rf_s, rf_n, isI_i, isL_l, isR_r, isR_n, isR_q, ct_i, ct_l, ct_r, ct_n, ct_q, tFs, tCs, tKs, tJs, tSs, e_nf, lgs, ↓reduceIte, true_and, and_true, false_and, and_false, or_true, true_or, false_or, or_false, Nat.reduceAdd, Nat.reduceEqDiff, Nat.reduceDiv, Nat.reduceLT, Nat.reduceLeDiff, Nat.zero_add, reduceCtorEq, Bool.false_eq_true, Option.toList_some, Option.toList_none, List.cons_append, List.nil_append, not_true_eq_false, not_false_eq_true, Nat.sub_zero, dsX7_head, jsX7_head, xcX7_head, h0, r234, k234, l234, j1, j2, b0, g2, nI_1]
            exact ih2
          · rw [if_neg g2] at ih2
            refine e_g2 hG [(55, [0, 1, 2, 3, 4, 5, 7, 9, 11])] 60 ?_
            simp only [e_wp_s, Option.getD_some, Option.isSome_some, Option.isSome_none, xis0, xis1, xis2, xis3, xis4, e_ks, lk_k, lk_c, List.lookup_nil, gt_c, vi_i, k1_n, k1_c, k2_n, k2_c, ar_n, ar_c, pk_n, pk_c, rm_0, rm_1, rm_2, rm_3, rm_4, rm_5, rc_9, rcs, fvs, rf_s, rf_n, isI_i, isL_l, isR_r, isR_n, isR_q, ct_i, ct_l, ct_r, ct_n, ct_q, tFs, tCs, tKs, tJs, tSs, e_nf, lgs, ↓reduceIte, true_and, and_true, false_and, and_false, or_true, true_or, false_or, or_false, Nat.reduceAdd, Nat.reduceEqDiff, Nat.reduceDiv, Nat.reduceLT, Nat.reduceLeDiff, Nat.zero_add, reduceCtorEq, Bool.false_eq_true, Option.toList_some, Option.toList_none, List.cons_append, List.nil_append, not_true_eq_false, not_false_eq_true, Nat.sub_zero, dsX7_head, jsX7_head, xcX7_head, h0, r234, k234, l234, j1, j2, b0, g2, nI_1]
            exact ih2
        refine e_g2 hG [(86, [0, 1, 2, 3, 4, 5, 7, 9, 11])] 60 ?_
        simp only [e_wp_s, Option.getD_some, Option.isSome_some, Option.isSome_none, xis0, xis1, xis2, xis3, xis4, e_ks, lk_k, lk_c, List.lookup_nil, gt_c, vi_i, k1_n, k1_c, k2_n, k2_c, ar_n, ar_c, pk_n, pk_c, rm_0, rm_1, rm_2, rm_3, rm_4, rm_5, rc_9, rcs, fvs, rf_s, rf_n, isI_i, isL_l, isR_r, isR_n, isR_q, ct_i, ct_l, ct_r, ct_n, ct_q, tFs, tCs, tKs, tJs, tSs, e_nf, lgs, ↓reduceIte, true_and, and_true, false_and, and_false, or_true, true_or, false_or, or_false, Nat.reduceAdd, Nat.reduceEqDiff, Nat.reduceDiv, Nat.reduceLT, Nat.reduceLeDiff, Nat.zero_add, reduceCtorEq, Bool.false_eq_true, Option.toList_some, Option.toList_none, List.cons_append, List.nil_append, not_true_eq_false, not_false_eq_true, Nat.sub_zero, dsX7_head, jsX7_head, xcX7_head, h0, r232, k232, l232, r234, k234, l234, f2, f3, hsz, nI_add, e1, j1, j2, b0, ↓sp_X7_spot, spt]
        by_cases g1 : p.2 < lo
        · rw [if_pos g1] at s3
          refine e_g2 hG [(113, [0, 1, 2, 3, 4, 5, 7, 9, 11])] 60 ?_
          simp only [e_wp_s, Option.getD_some, Option.isSome_some, Option.isSome_none, xis0, xis1, xis2, xis3, xis4, e_ks, lk_k, lk_c, List.lookup_nil, gt_c, vi_i, k1_n, k1_c, k2_n, k2_c, ar_n, ar_c, pk_n, pk_c, rm_0, rm_1, rm_2, rm_3, rm_4, rm_5, rc_9, rcs, fvs, rf_s, rf_n, isI_i, isL_l, isR_r, isR_n, isR_q, ct_i, ct_l, ct_r, ct_n, ct_q, tFs, tCs, tKs, tJs, tSs, e_nf, lgs, ↓reduceIte, true_and, and_true, false_and, and_false, or_true, true_or, false_or, or_false, Nat.reduceAdd, Nat.reduceEqDiff, Nat.reduceDiv, Nat.reduceLT, Nat.reduceLeDiff, Nat.zero_add, reduceCtorEq, Bool.false_eq_true, Option.toList_some, Option.toList_none, List.cons_append, List.nil_append, not_true_eq_false, not_false_eq_true, Nat.sub_zero, dsX7_head, jsX7_head, xcX7_head, h0, r234, k234, l234, j1, j2, b0, g1]
          exact s3
        · rw [if_neg g1] at s3
          refine e_g2 hG [(113, [0, 1, 2, 3, 4, 5, 7, 9, 11])] 60 ?_
          simp only [e_wp_s, Option.getD_some, Option.isSome_some, Option.isSome_none, xis0, xis1, xis2, xis3, xis4, e_ks, lk_k, lk_c, List.lookup_nil, gt_c, vi_i, k1_n, k1_c, k2_n, k2_c, ar_n, ar_c, pk_n, pk_c, rm_0, rm_1, rm_2, rm_3, rm_4, rm_5, rc_9, rcs, fvs, rf_s, rf_n, isI_i, isL_l, isR_r, isR_n, isR_q, ct_i, ct_l, ct_r, ct_n, ct_q, tFs, tCs, tKs, tJs, tSs, e_nf, lgs, ↓reduceIte, true_and, and_true, false_and, and_false, or_true, true_or, false_or, or_false, Nat.reduceAdd, Nat.reduceEqDiff, Nat.reduceDiv, Nat.reduceLT, Nat.reduceLeDiff, Nat.zero_add, reduceCtorEq, Bool.false_eq_true, Option.toList_some, Option.toList_none, List.cons_append, List.nil_append, not_true_eq_false, not_false_eq_true, Nat.sub_zero, dsX7_head, jsX7_head, xcX7_head, h0, r234, k234, l234, j1, j2, b0, g1]
          exact s3
    refine e_g2 hG [(55, [0, 1, 2, 3, 4, 5, 7, 9, 11])] 60 ?_
    simp only [e_wp_s, Option.getD_some, Option.isSome_some, Option.isSome_none, xis0, xis1, xis2, xis3, xis4, e_ks, lk_k, lk_c, List.lookup_nil, gt_c, vi_i, k1_n, k1_c, k2_n, k2_c, ar_n, ar_c, pk_n, pk_c, rm_0, rm_1, rm_2, rm_3, rm_4, rm_5, rc_9, rcs, fvs, rf_s, rf_n, isI_i, isL_l, isR_r, isR_n, isR_q, ct_i, ct_l, ct_r, ct_n, ct_q, tFs, tCs, tKs, tJs, tSs, e_nf, lgs, ↓reduceIte, true_and, and_true, false_and, and_false, or_true, true_or, false_or, or_false, Nat.reduceAdd, Nat.reduceEqDiff, Nat.reduceDiv, Nat.reduceLT, Nat.reduceLeDiff, Nat.zero_add, reduceCtorEq, Bool.false_eq_true, Option.toList_some, Option.toList_none, List.cons_append, List.nil_append, not_true_eq_false, not_false_eq_true, Nat.sub_zero, dsX7_head, jsX7_head, xcX7_head, h0, r234, k234, l234, i1, i2, a0]
    have hl := loop X.1.length 0 p0.2 p0.2 (by omega) (fun q => absurd q (Nat.lt_irrefl _)) (fun _ => ⟨rfl, rfl⟩)
    rw [Nat.add_zero] at hl
    exact hl
