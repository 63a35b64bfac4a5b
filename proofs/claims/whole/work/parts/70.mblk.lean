/-! the reference: blocks told -/
def wft (L : List SER) : Prop := ∀ S, S ∈ L → tmO (mpts S.2.2.2.1)
theorem MRp.scr {A : Nat → Nat} {O : GH} {M U : HM} {m : Nat} {L : List SER} {z : Nat × Nat × Nat} (h : MRp A O M m L z) (hC : MC O A m [245, 246, 247, 251, 252, 253] M U) : MRp A O U m L z := by
  obtain ⟨h1, h2, ⟨h3, h3'⟩, h4, h5, h6, h7, h8⟩ := h
  refine ⟨hC.ms h1, h2, ⟨by rw [hC.2.2.2.2.2 224 (by decide)]; exact h3, h3'⟩, fun s S hS => ?_, fun s hs hs8 => ?_, by rw [hC.2.2.2.2.2 248 (by decide)]; exact h6, by rw [hC.2.2.2.2.2 249 (by decide)]; exact h7, by rw [hC.2.2.2.2.2 250 (by decide)]; exact h8⟩
  · obtain ⟨g1, g2, g3, g4, g5⟩ := h4 s S hS
    exact ⟨hC.mH (by decide) g1, hC.mP (by decide) g2, hC.mB (by decide) g3, hC.mT (by decide) g4, hC.mSp (fun f h1 h2 => by intro hf; simp at hf; omega) (by decide) g5⟩
  · rw [(hC.2.2.2.2.1 226 rfl (by decide)).1, (hC.2.2.2.2.1 227 rfl (by decide)).1, (hC.2.2.2.2.1 228 rfl (by decide)).1, (hC.2.2.2.2.1 229 rfl (by decide)).1, (hC.2.2.2.2.1 230 rfl (by decide)).1]
    exact h5 s hs hs8
theorem MC.w3 {O : GH} {A : Nat → Nat} {m : Nat} {M U : HM} (h : MC O A m [245, 246, 247] M U) : MC O A m [245, 246, 247, 251, 252, 253] M U := h.mono (fun f hf => by revert hf; revert f; decide)
def csX7_isBlock : CS := (cs_c 0 103 2 7 sp_X7_isSeries cs_0)
theorem csoX7_isBlock : ∀ op x na cl sp, csX7_isBlock op x = some (na, cl, sp) → CallOK 7 1 21 op x na cl sp := (cs_c_ok (caX7_isBlock_103 okX7_isSeries) cs_0_ok)
theorem xcX7_isBlock : (∀ (Q : QT) (G : GT) (pc : Nat) (L : LV) (a0 a1 : Value) (r : List Value) (M : HM) (k n : Nat), ex_i 7 3 4 false csX7_isBlock Q G (.invokevirtual 103) pc L (a1 :: a0 :: r) M k n = (e_rm r ∧ e_rc M 7 [a0, a1] ∧ sp_X7_isSeries [a0, a1] M k n (fun v M' k' n' => G (pc + 3) L (v.toList ++ r) M' k' n'))) := (fun _ _ _ _ _ _ _ _ _ _ => xv0_2 rfl)
def sp_X7_isBlock : SP := fun as M k n Q => match as with
  | [.ref m, .int i, .int j] => ∃ A O L z, MRp A O M m L z ∧ Q (some (.int (if (sblk L i j).isSome then 1 else 0))) M k n
  | _ => False
theorem okX7_isBlock : OkX7_isBlock sp_X7_isBlock := by
  refine inX7_isBlock csoX7_isBlock ?_
  intro as M k n Q hsp
  unfold sp_X7_isBlock at hsp
  split at hsp
  rotate_left
  · exact hsp.elim
  rename_i m i j
  obtain ⟨A, O, L, z, hR, hq⟩ := hsp
  have hM := hR.1
  have h0 := hM.1
  obtain ⟨r228, k228, l228⟩ : mR M 228 m = some (A 228) ∧ mK M (A 228) = 9 ∧ mN M (A 228) = 8 := hM.2 228 rfl
  refine ⟨0, 0, Nat.zero_le _, Nat.zero_le _, Nat.le_of_ble_eq_true rfl, fun G hG => ?_⟩
  rcases hR.at_ i with ⟨h1, h2⟩ | ⟨s, S, h1, rfl, h3, h4, h5, h6⟩
  · have hb : sblk L i j = none := by unfold sblk; rw [h1]
    rw [hb] at hq
    refine e_g2 hG [] 40 ?_
    simp only [e_wp_s, Option.getD_some, Option.isSome_some, Option.isSome_none, xis0, xis1, xis2, xis3, xis4, e_ks, lk_k, lk_c, List.lookup_nil, gt_c, vi_i, k1_n, k1_c, k2_n, k2_c, ar_n, ar_c, pk_n, pk_c, rm_0, rm_1, rm_2, rm_3, rm_4, rm_5, rc_9, rcs, fvs, rf_s, rf_n, isI_i, isL_l, isR_r, isR_n, isR_q, ct_i, ct_l, ct_r, ct_n, ct_q, tFs, tCs, tKs, tJs, tSs, e_nf, lgs, ↓reduceIte, true_and, and_true, false_and, and_false, or_true, true_or, false_or, or_false, Nat.reduceAdd, Nat.reduceEqDiff, Nat.reduceDiv, Nat.reduceLT, Nat.reduceLeDiff, Nat.zero_add, reduceCtorEq, Bool.false_eq_true, Option.toList_some, Option.toList_none, List.cons_append, List.nil_append, not_true_eq_false, not_false_eq_true, Nat.sub_zero, dsX7_isBlock, jsX7_isBlock, xcX7_isBlock, h0, h2, ↓sp_X7_isSeries]
    simpa using hq
  · have hb : sblk L (nI s) j = blkA S.2.2.2.1 j := by unfold sblk; rw [h1]
    rw [hb] at hq
    have sc : (nI s).toNatClampNeg = s := nI_clamp (by omega)
    have sv : vp_in (nI s) 8 := vp_in_nI h5 (by decide)
    have bl := h4.2.2.1.1
    have b300 := h4.2.2.1.2.1
    unfold blkA at hq
    by_cases c : j < 0
    · rw [if_pos c] at hq
      refine e_g2 hG [] 40 ?_
      simp only [e_wp_s, Option.getD_some, Option.isSome_some, Option.isSome_none, xis0, xis1, xis2, xis3, xis4, e_ks, lk_k, lk_c, List.lookup_nil, gt_c, vi_i, k1_n, k1_c, k2_n, k2_c, ar_n, ar_c, pk_n, pk_c, rm_0, rm_1, rm_2, rm_3, rm_4, rm_5, rc_9, rcs, fvs, rf_s, rf_n, isI_i, isL_l, isR_r, isR_n, isR_q, ct_i, ct_l, ct_r, ct_n, ct_q, tFs, tCs, tKs, tJs, tSs, e_nf, lgs, ↓reduceIte, true_and, and_true, false_and, and_false, or_true, true_or, false_or, or_false, Nat.reduceAdd, Nat.reduceEqDiff, Nat.reduceDiv, Nat.reduceLT, Nat.reduceLeDiff, Nat.zero_add, reduceCtorEq, Bool.false_eq_true, Option.toList_some, Option.toList_none, List.cons_append, List.nil_append, not_true_eq_false, not_false_eq_true, Nat.sub_zero, dsX7_isBlock, jsX7_isBlock, xcX7_isBlock, h0, h6, i10, c, ↓sp_X7_isSeries]
      simpa using hq
    · obtain ⟨j', hj, rfl⟩ := nI_of c
      rw [if_neg c, nI_clamp hj] at hq
      by_cases c2 : j' < S.2.2.2.1.length
      · have e1 : nI j' < nI S.2.2.2.1.length := nI_lt c2 (by omega)
        rw [List.getElem?_eq_getElem c2] at hq
        refine e_g2 hG [] 40 ?_
        simp only [e_wp_s, Option.getD_some, Option.isSome_some, Option.isSome_none, xis0, xis1, xis2, xis3, xis4, e_ks, lk_k, lk_c, List.lookup_nil, gt_c, vi_i, k1_n, k1_c, k2_n, k2_c, ar_n, ar_c, pk_n, pk_c, rm_0, rm_1, rm_2, rm_3, rm_4, rm_5, rc_9, rcs, fvs, rf_s, rf_n, isI_i, isL_l, isR_r, isR_n, isR_q, ct_i, ct_l, ct_r, ct_n, ct_q, tFs, tCs, tKs, tJs, tSs, e_nf, lgs, ↓reduceIte, true_and, and_true, false_and, and_false, or_true, true_or, false_or, or_false, Nat.reduceAdd, Nat.reduceEqDiff, Nat.reduceDiv, Nat.reduceLT, Nat.reduceLeDiff, Nat.zero_add, reduceCtorEq, Bool.false_eq_true, Option.toList_some, Option.toList_none, List.cons_append, List.nil_append, not_true_eq_false, not_false_eq_true, Nat.sub_zero, dsX7_isBlock, jsX7_isBlock, xcX7_isBlock, h0, h6, i10, c, r228, k228, l228, sc, sv, bl, e1, ↓sp_X7_isSeries]
        simpa using hq
      · have e1 : ¬ nI j' < nI S.2.2.2.1.length := nI_nlt (by omega) hj
        rw [List.getElem?_eq_none (by omega)] at hq
        refine e_g2 hG [] 40 ?_
        simp only [e_wp_s, Option.getD_some, Option.isSome_some, Option.isSome_none, xis0, xis1, xis2, xis3, xis4, e_ks, lk_k, lk_c, List.lookup_nil, gt_c, vi_i, k1_n, k1_c, k2_n, k2_c, ar_n, ar_c, pk_n, pk_c, rm_0, rm_1, rm_2, rm_3, rm_4, rm_5, rc_9, rcs, fvs, rf_s, rf_n, isI_i, isL_l, isR_r, isR_n, isR_q, ct_i, ct_l, ct_r, ct_n, ct_q, tFs, tCs, tKs, tJs, tSs, e_nf, lgs, ↓reduceIte, true_and, and_true, false_and, and_false, or_true, true_or, false_or, or_false, Nat.reduceAdd, Nat.reduceEqDiff, Nat.reduceDiv, Nat.reduceLT, Nat.reduceLeDiff, Nat.zero_add, reduceCtorEq, Bool.false_eq_true, Option.toList_some, Option.toList_none, List.cons_append, List.nil_append, not_true_eq_false, not_false_eq_true, Nat.sub_zero, dsX7_isBlock, jsX7_isBlock, xcX7_isBlock, h0, h6, i10, c, r228, k228, l228, sc, sv, bl, e1, ↓sp_X7_isSeries]
        simpa using hq
theorem MRp.bk {A : Nat → Nat} {O : GH} {M : HM} {m : Nat} {L : List SER} {z : Nat × Nat × Nat} (h : MRp A O M m L z) (i j : Int32) : sblk L i j = none ∨ ∃ s S b X, sblk L i j = some X ∧ ser L i = some S ∧ i = nI s ∧ L[s]? = some S ∧ j = nI b ∧ S.2.2.2.1[b]? = some X ∧ MSer A M s S ∧ s < 8 ∧ b < 300 ∧ blkA S.2.2.2.1 j = some X := by
  rcases h.at_ i with ⟨h1, h2⟩ | ⟨s, S, h1, rfl, h3, h4, h5, h6⟩
  · left; unfold sblk; rw [h1]
  · have hb : sblk L (nI s) j = blkA S.2.2.2.1 j := by unfold sblk; rw [h1]
    rw [hb]
    cases hx : blkA S.2.2.2.1 j with
    | none => left; rfl
    | some X =>
      right
      have hx' := hx
      unfold blkA at hx
      by_cases c : j < 0
      · rw [if_pos c] at hx; cases hx
      · obtain ⟨b, hbj, rfl⟩ := nI_of c
        rw [if_neg c, nI_clamp hbj] at hx
        have hbl := (List.getElem?_eq_some_iff.mp hx).1
        have := h4.2.2.1.2.1
        exact ⟨s, S, b, X, rfl, h1, rfl, h3, rfl, hx, h4, h5, by omega, hx'⟩
theorem tmO_blk {bk : List BLK} {b : Nat} {X : BLK} (h : tmO (mpts bk)) (hx : bk[b]? = some X) : tmO X.1 := fun p hp => h p (by
  unfold mpts
  rw [List.mem_flatten]
  exact ⟨X.1, List.mem_map.mpr ⟨X, List.mem_of_getElem? hx, rfl⟩, hp⟩)
def csX7_isByte : CS := (cs_c 0 197 3 7 sp_X7_isBlock (cs_c 0 200 3 7 sp_X7_write (cs_c 0 204 1 7 sp_X7_bytes cs_0)))
theorem csoX7_isByte : ∀ op x na cl sp, csX7_isByte op x = some (na, cl, sp) → CallOK 7 4 104 op x na cl sp := (cs_c_ok (caX7_isByte_197 okX7_isBlock) (cs_c_ok (caX7_isByte_200 okX7_write) (cs_c_ok (caX7_isByte_204 okX7_bytes) cs_0_ok)))
theorem xcX7_isByte : (∀ (Q : QT) (G : GT) (pc : Nat) (L : LV) (a0 a1 a2 : Value) (r : List Value) (M : HM) (k n : Nat), ex_i 7 4 4 false csX7_isByte Q G (.invokevirtual 197) pc L (a2 :: a1 :: a0 :: r) M k n = (e_rm r ∧ e_rc M 7 [a0, a1, a2] ∧ sp_X7_isBlock [a0, a1, a2] M k n (fun v M' k' n' => G (pc + 3) L (v.toList ++ r) M' k' n'))) ∧ (∀ (Q : QT) (G : GT) (pc : Nat) (L : LV) (a0 a1 a2 : Value) (r : List Value) (M : HM) (k n : Nat), ex_i 7 4 4 false csX7_isByte Q G (.invokevirtual 200) pc L (a2 :: a1 :: a0 :: r) M k n = (e_rm r ∧ e_rc M 7 [a0, a1, a2] ∧ sp_X7_write [a0, a1, a2] M k n (fun v M' k' n' => G (pc + 3) L (v.toList ++ r) M' k' n'))) ∧ (∀ (Q : QT) (G : GT) (pc : Nat) (L : LV) (a0 : Value) (r : List Value) (M : HM) (k n : Nat), ex_i 7 4 4 false csX7_isByte Q G (.invokevirtual 204) pc L (a0 :: r) M k n = (e_rm r ∧ e_rc M 7 [a0] ∧ sp_X7_bytes [a0] M k n (fun v M' k' n' => G (pc + 3) L (v.toList ++ r) M' k' n'))) := ⟨(fun _ _ _ _ _ _ _ _ _ _ _ => xv0_3 rfl), (fun _ _ _ _ _ _ _ _ _ _ _ => xv0_3 rfl), (fun _ _ _ _ _ _ _ _ _ => xv0_1 rfl)⟩
def sp_X7_isByte : SP := fun as M k n Q => match as with
  | [.ref m, .int i, .int j, .int p] => ∃ A O L z, MRp A O M m L z ∧ wft L ∧ (sblk L i j = none → Q (some (.int 0)) M k n) ∧ ∀ X U, sblk L i j = some X → MC O A m [245, 246, 247] M U → (∀ k, k < 256 → aI U (A 245) k = byt (eB (enc X.1)) k) → Q (some (.int (if ¬ p < 0 ∧ p < nI (((eB (enc X.1)).length + 7) / 8) then 1 else 0))) U k n
  | _ => False
theorem okX7_isByte : OkX7_isByte sp_X7_isByte := by
  refine inX7_isByte csoX7_isByte ?_
  intro as M k n Q hsp
  unfold sp_X7_isByte at hsp
  split at hsp
  rotate_left
  · exact hsp.elim
  rename_i m i j p
  obtain ⟨A, O, L, z, hR, hwt, hq1, hq2⟩ := hsp
  have hM := hR.1
  have h0 := hM.1
  refine ⟨0, 0, Nat.zero_le _, Nat.zero_le _, Nat.le_of_ble_eq_true rfl, fun G hG => ?_⟩
  refine e_g2 hG [(6, [0, 1, 2, 3])] 60 ?_
  simp only [e_wp_s, Option.getD_some, Option.isSome_some, Option.isSome_none, xis0, xis1, xis2, xis3, xis4, e_ks, lk_k, lk_c, List.lookup_nil, gt_c, vi_i, k1_n, k1_c, k2_n, k2_c, ar_n, ar_c, pk_n, pk_c, rm_0, rm_1, rm_2, rm_3, rm_4, rm_5, rc_9, rcs, fvs, rf_s, rf_n, isI_i, isL_l, isR_r, isR_n, isR_q, ct_i, ct_l, ct_r, ct_n, ct_q, tFs, tCs, tKs, tJs, tSs, e_nf, lgs, ↓reduceIte, true_and, and_true, false_and, and_false, or_true, true_or, false_or, or_false, Nat.reduceAdd, Nat.reduceEqDiff, Nat.reduceDiv, Nat.reduceLT, Nat.reduceLeDiff, Nat.zero_add, reduceCtorEq, Bool.false_eq_true, Option.toList_some, Option.toList_none, List.cons_append, List.nil_append, not_true_eq_false, not_false_eq_true, Nat.sub_zero, dsX7_isByte, jsX7_isByte, xcX7_isByte, h0]
  refine ⟨A, O, L, z, hR, ?_⟩
  rcases hR.bk i j with hb | ⟨s, S, b, X, hb, -, rfl, h3, rfl, h5, h6, h7, h8, -⟩
  · rw [hb]
    refine e_g2 hG [] 60 ?_
    simp only [e_wp_s, Option.getD_some, Option.isSome_some, Option.isSome_none, xis0, xis1, xis2, xis3, xis4, e_ks, lk_k, lk_c, List.lookup_nil, gt_c, vi_i, k1_n, k1_c, k2_n, k2_c, ar_n, ar_c, pk_n, pk_c, rm_0, rm_1, rm_2, rm_3, rm_4, rm_5, rc_9, rcs, fvs, rf_s, rf_n, isI_i, isL_l, isR_r, isR_n, isR_q, ct_i, ct_l, ct_r, ct_n, ct_q, tFs, tCs, tKs, tJs, tSs, e_nf, lgs, ↓reduceIte, true_and, and_true, false_and, and_false, or_true, true_or, false_or, or_false, Nat.reduceAdd, Nat.reduceEqDiff, Nat.reduceDiv, Nat.reduceLT, Nat.reduceLeDiff, Nat.zero_add, reduceCtorEq, Bool.false_eq_true, Option.toList_some, Option.toList_none, List.cons_append, List.nil_append, not_true_eq_false, not_false_eq_true, Nat.sub_zero, dsX7_isByte, jsX7_isByte, xcX7_isByte]
    exact hq1 hb
  · rw [hb]
    have htm := tmO_blk (hwt S (List.mem_of_getElem? h3)) h5
    have h16 := (h6.2.2.1.2.2.2 X (List.mem_of_getElem? h5)).2.1
    have hen := enc_1808 h16
    have hbc := bc_e (show (eB (enc X.1)).length ≤ 1808 by omega)
    refine e_g2 hG [(17, [0, 1, 2, 3])] 60 ?_
    simp only [e_wp_s, Option.getD_some, Option.isSome_some, Option.isSome_none, xis0, xis1, xis2, xis3, xis4, e_ks, lk_k, lk_c, List.lookup_nil, gt_c, vi_i, k1_n, k1_c, k2_n, k2_c, ar_n, ar_c, pk_n, pk_c, rm_0, rm_1, rm_2, rm_3, rm_4, rm_5, rc_9, rcs, fvs, rf_s, rf_n, isI_i, isL_l, isR_r, isR_n, isR_q, ct_i, ct_l, ct_r, ct_n, ct_q, tFs, tCs, tKs, tJs, tSs, e_nf, lgs, ↓reduceIte, true_and, and_true, false_and, and_false, or_true, true_or, false_or, or_false, Nat.reduceAdd, Nat.reduceEqDiff, Nat.reduceDiv, Nat.reduceLT, Nat.reduceLeDiff, Nat.zero_add, reduceCtorEq, Bool.false_eq_true, Option.toList_some, Option.toList_none, List.cons_append, List.nil_append, not_true_eq_false, not_false_eq_true, Nat.sub_zero, dsX7_isByte, jsX7_isByte, xcX7_isByte, h0, i10]
    refine ⟨O, A, s, b, _, X, hM, hR.2.1, h7, h6.2.2.1, h6.2.1, rfl, rfl, h5, htm, fun U hC hby hbi hco => ?_⟩
    have hq := hq2 X U hb hC hby
    have g0 := (hC.ms hM).1
    by_cases c1 : p < 0
    · refine e_g2 hG [] 60 ?_
      simp only [e_wp_s, Option.getD_some, Option.isSome_some, Option.isSome_none, xis0, xis1, xis2, xis3, xis4, e_ks, lk_k, lk_c, List.lookup_nil, gt_c, vi_i, k1_n, k1_c, k2_n, k2_c, ar_n, ar_c, pk_n, pk_c, rm_0, rm_1, rm_2, rm_3, rm_4, rm_5, rc_9, rcs, fvs, rf_s, rf_n, isI_i, isL_l, isR_r, isR_n, isR_q, ct_i, ct_l, ct_r, ct_n, ct_q, tFs, tCs, tKs, tJs, tSs, e_nf, lgs, ↓reduceIte, true_and, and_true, false_and, and_false, or_true, true_or, false_or, or_false, Nat.reduceAdd, Nat.reduceEqDiff, Nat.reduceDiv, Nat.reduceLT, Nat.reduceLeDiff, Nat.zero_add, reduceCtorEq, Bool.false_eq_true, Option.toList_some, Option.toList_none, List.cons_append, List.nil_append, not_true_eq_false, not_false_eq_true, Nat.sub_zero, dsX7_isByte, jsX7_isByte, xcX7_isByte, c1]
      simpa [c1] using hq
    · by_cases c2 : p < nI (((eB (enc X.1)).length + 7) / 8)
      · refine e_g2 hG [] 60 ?_
        simp only [e_wp_s, Option.getD_some, Option.isSome_some, Option.isSome_none, xis0, xis1, xis2, xis3, xis4, e_ks, lk_k, lk_c, List.lookup_nil, gt_c, vi_i, k1_n, k1_c, k2_n, k2_c, ar_n, ar_c, pk_n, pk_c, rm_0, rm_1, rm_2, rm_3, rm_4, rm_5, rc_9, rcs, fvs, rf_s, rf_n, isI_i, isL_l, isR_r, isR_n, isR_q, ct_i, ct_l, ct_r, ct_n, ct_q, tFs, tCs, tKs, tJs, tSs, e_nf, lgs, ↓reduceIte, true_and, and_true, false_and, and_false, or_true, true_or, false_or, or_false, Nat.reduceAdd, Nat.reduceEqDiff, Nat.reduceDiv, Nat.reduceLT, Nat.reduceLeDiff, Nat.zero_add, reduceCtorEq, Bool.false_eq_true, Option.toList_some, Option.toList_none, List.cons_append, List.nil_append, not_true_eq_false, not_false_eq_true, Nat.sub_zero, dsX7_isByte, jsX7_isByte, xcX7_isByte, g0, c1, hbi, hbc, c2, ↓sp_X7_bytes]
        simpa [c1, c2] using hq
      · refine e_g2 hG [] 60 ?_
        simp only [e_wp_s, Option.getD_some, Option.isSome_some, Option.isSome_none, xis0, xis1, xis2, xis3, xis4, e_ks, lk_k, lk_c, List.lookup_nil, gt_c, vi_i, k1_n, k1_c, k2_n, k2_c, ar_n, ar_c, pk_n, pk_c, rm_0, rm_1, rm_2, rm_3, rm_4, rm_5, rc_9, rcs, fvs, rf_s, rf_n, isI_i, isL_l, isR_r, isR_n, isR_q, ct_i, ct_l, ct_r, ct_n, ct_q, tFs, tCs, tKs, tJs, tSs, e_nf, lgs, ↓reduceIte, true_and, and_true, false_and, and_false, or_true, true_or, false_or, or_false, Nat.reduceAdd, Nat.reduceEqDiff, Nat.reduceDiv, Nat.reduceLT, Nat.reduceLeDiff, Nat.zero_add, reduceCtorEq, Bool.false_eq_true, Option.toList_some, Option.toList_none, List.cons_append, List.nil_append, not_true_eq_false, not_false_eq_true, Nat.sub_zero, dsX7_isByte, jsX7_isByte, xcX7_isByte, g0, c1, hbi, hbc, c2, ↓sp_X7_bytes]
        simpa [c1, c2] using hq
def csX7_at : CS := (cs_c 0 212 4 7 sp_X7_isByte (cs_c 0 118 4 7 sp_X7_mask cs_0))
theorem csoX7_at : ∀ op x na cl sp, csX7_at op x = some (na, cl, sp) → CallOK 7 5 127 op x na cl sp := (cs_c_ok (caX7_at_212 okX7_isByte) (cs_c_ok (caX7_at_118 okX7_mask) cs_0_ok))
theorem xcX7_at : (∀ (Q : QT) (G : GT) (pc : Nat) (L : LV) (a0 a1 a2 a3 : Value) (r : List Value) (M : HM) (k n : Nat), ex_i 7 4 1 false csX7_at Q G (.invokevirtual 212) pc L (a3 :: a2 :: a1 :: a0 :: r) M k n = (e_rm r ∧ e_rc M 7 [a0, a1, a2, a3] ∧ sp_X7_isByte [a0, a1, a2, a3] M k n (fun v M' k' n' => G (pc + 3) L (v.toList ++ r) M' k' n'))) ∧ (∀ (Q : QT) (G : GT) (pc : Nat) (L : LV) (a0 a1 a2 a3 : Value) (r : List Value) (M : HM) (k n : Nat), ex_i 7 4 1 false csX7_at Q G (.invokevirtual 118) pc L (a3 :: a2 :: a1 :: a0 :: r) M k n = (e_rm r ∧ e_rc M 7 [a0, a1, a2, a3] ∧ sp_X7_mask [a0, a1, a2, a3] M k n (fun v M' k' n' => G (pc + 3) L (v.toList ++ r) M' k' n'))) := ⟨(fun _ _ _ _ _ _ _ _ _ _ _ _ => xv0_4 rfl), (fun _ _ _ _ _ _ _ _ _ _ _ _ => xv0_4 rfl)⟩
def sp_X7_at : SP := fun as M k n Q => match as with
  | [.ref m, .int i, .int j, .int p] => ∃ A O L z, MRp A O M m L z ∧ wft L ∧ ∀ U, MRp A O U m L z → Fr (Ss m) O O M U → Q (some (.int (aAt L i j p))) U k n
  | _ => False
theorem okX7_at : OkX7_at sp_X7_at := by
  refine inX7_at csoX7_at ?_
  intro as M k n Q hsp
  unfold sp_X7_at at hsp
  split at hsp
  rotate_left
  · exact hsp.elim
  rename_i m i j p
  obtain ⟨A, O, L, z, hR, hwt, hq⟩ := hsp
  have hM := hR.1
  have h0 := hM.1
  refine ⟨0, 0, Nat.zero_le _, Nat.zero_le _, Nat.le_of_ble_eq_true rfl, fun G hG => ?_⟩
  unfold aAt at hq
  refine e_g2 hG [(7, [0, 1, 2, 3])] 60 ?_
  simp only [e_wp_s, Option.getD_some, Option.isSome_some, Option.isSome_none, xis0, xis1, xis2, xis3, xis4, e_ks, lk_k, lk_c, List.lookup_nil, gt_c, vi_i, k1_n, k1_c, k2_n, k2_c, ar_n, ar_c, pk_n, pk_c, rm_0, rm_1, rm_2, rm_3, rm_4, rm_5, rc_9, rcs, fvs, rf_s, rf_n, isI_i, isL_l, isR_r, isR_n, isR_q, ct_i, ct_l, ct_r, ct_n, ct_q, tFs, tCs, tKs, tJs, tSs, e_nf, lgs, ↓reduceIte, true_and, and_true, false_and, and_false, or_true, true_or, false_or, or_false, Nat.reduceAdd, Nat.reduceEqDiff, Nat.reduceDiv, Nat.reduceLT, Nat.reduceLeDiff, Nat.zero_add, reduceCtorEq, Bool.false_eq_true, Option.toList_some, Option.toList_none, List.cons_append, List.nil_append, not_true_eq_false, not_false_eq_true, Nat.sub_zero, dsX7_at, jsX7_at, xcX7_at, h0]
  refine ⟨A, O, L, z, hR, hwt, fun hb => ?_, fun X U hb hC hby => ?_⟩
  · rw [hb] at hq
    refine e_g2 hG [] 60 ?_
    simp only [e_wp_s, Option.getD_some, Option.isSome_some, Option.isSome_none, xis0, xis1, xis2, xis3, xis4, e_ks, lk_k, lk_c, List.lookup_nil, gt_c, vi_i, k1_n, k1_c, k2_n, k2_c, ar_n, ar_c, pk_n, pk_c, rm_0, rm_1, rm_2, rm_3, rm_4, rm_5, rc_9, rcs, fvs, rf_s, rf_n, isI_i, isL_l, isR_r, isR_n, isR_q, ct_i, ct_l, ct_r, ct_n, ct_q, tFs, tCs, tKs, tJs, tSs, e_nf, lgs, ↓reduceIte, true_and, and_true, false_and, and_false, or_true, true_or, false_or, or_false, Nat.reduceAdd, Nat.reduceEqDiff, Nat.reduceDiv, Nat.reduceLT, Nat.reduceLeDiff, Nat.zero_add, reduceCtorEq, Bool.false_eq_true, Option.toList_some, Option.toList_none, List.cons_append, List.nil_append, not_true_eq_false, not_false_eq_true, Nat.sub_zero, dsX7_at, jsX7_at, xcX7_at]
    exact hq M hR Fr.rf
  · rw [hb] at hq
    have hq := hq U (hR.scr hC.w3) hC.2.2.2.1
    by_cases c : ¬ p < 0 ∧ p < nI (((eB (enc X.1)).length + 7) / 8)
    · rw [if_pos c]
      simp only [c, not_false_eq_true, and_self, if_true] at hq
      rcases hR.bk i j with hb2 | ⟨s, S, b, X', hb2, -, rfl, h3, rfl, h5, h6, h7, h8, -⟩
      · rw [hb] at hb2; cases hb2
      · rw [hb] at hb2; cases hb2
        have hBu := hC.mB (s := s) (by decide) h6.2.2.1
        have h16 := (h6.2.2.1.2.2.2 X (List.mem_of_getElem? h5)).2.1
        have hen := enc_1808 h16
        obtain ⟨q, hq31, rfl⟩ := nI_of c.1
        have c2 := (nI_ltI hq31 (by omega)).mp c.2
        have hT := (hBu.2.2.1 b X h5).2 q (by omega)
        have hMU := hC.ms hM
        have g0 := hMU.1
        obtain ⟨r236, k236, l236⟩ : mR U 236 m = some (A 236) ∧ mK U (A 236) = 9 ∧ mN U (A 236) = 655360 := hMU.2 236 rfl
        obtain ⟨r245, k245, l245⟩ : mR U 245 m = some (A 245) ∧ mK U (A 245) = 9 ∧ mN U (A 245) = 256 := hMU.2 245 rfl
        have e1 : (nI q).toNatClampNeg = q := nI_clamp hq31
        have e2 : vp_in (nI q) 256 := vp_in_nI (by omega) (by decide)
        have e3 : (nI (256 * (320 * s + b) + q)).toNatClampNeg = 256 * (320 * s + b) + q := nI_clamp (by omega)
        have e4 : vp_in (nI (256 * (320 * s + b) + q)) 655360 := vp_in_nI (by omega) (by decide)
        have e5 := hby q (by omega)
        rw [e1] at hq
        refine e_g2 hG [] 60 ?_
        simp only [e_wp_s, Option.getD_some, Option.isSome_some, Option.isSome_none, xis0, xis1, xis2, xis3, xis4, e_ks, lk_k, lk_c, List.lookup_nil, gt_c, vi_i, k1_n, k1_c, k2_n, k2_c, ar_n, ar_c, pk_n, pk_c, rm_0, rm_1, rm_2, rm_3, rm_4, rm_5, rc_9, rcs, fvs, rf_s, rf_n, isI_i, isL_l, isR_r, isR_n, isR_q, ct_i, ct_l, ct_r, ct_n, ct_q, tFs, tCs, tKs, tJs, tSs, e_nf, lgs, ↓reduceIte, true_and, and_true, false_and, and_false, or_true, true_or, false_or, or_false, Nat.reduceAdd, Nat.reduceEqDiff, Nat.reduceDiv, Nat.reduceLT, Nat.reduceLeDiff, Nat.zero_add, reduceCtorEq, Bool.false_eq_true, Option.toList_some, Option.toList_none, List.cons_append, List.nil_append, not_true_eq_false, not_false_eq_true, Nat.sub_zero, dsX7_at, jsX7_at, xcX7_at, g0, i10, r236, k236, l236, r245, k245, l245, e1, e2, e3, e4, e5, hT, ↓sp_X7_mask, mst]
        exact hq
    · rw [if_neg c]
      simp only [c, if_false] at hq
      refine e_g2 hG [] 60 ?_
      simp only [e_wp_s, Option.getD_some, Option.isSome_some, Option.isSome_none, xis0, xis1, xis2, xis3, xis4, e_ks, lk_k, lk_c, List.lookup_nil, gt_c, vi_i, k1_n, k1_c, k2_n, k2_c, ar_n, ar_c, pk_n, pk_c, rm_0, rm_1, rm_2, rm_3, rm_4, rm_5, rc_9, rcs, fvs, rf_s, rf_n, isI_i, isL_l, isR_r, isR_n, isR_q, ct_i, ct_l, ct_r, ct_n, ct_q, tFs, tCs, tKs, tJs, tSs, e_nf, lgs, ↓reduceIte, true_and, and_true, false_and, and_false, or_true, true_or, false_or, or_false, Nat.reduceAdd, Nat.reduceEqDiff, Nat.reduceDiv, Nat.reduceLT, Nat.reduceLeDiff, Nat.zero_add, reduceCtorEq, Bool.false_eq_true, Option.toList_some, Option.toList_none, List.cons_append, List.nil_append, not_true_eq_false, not_false_eq_true, Nat.sub_zero, dsX7_at, jsX7_at, xcX7_at]
      exact hq
def csX7_tear : CS := (cs_c 0 212 4 7 sp_X7_isByte (cs_c 0 118 4 7 sp_X7_mask cs_0))
theorem csoX7_tear : ∀ op x na cl sp, csX7_tear op x = some (na, cl, sp) → CallOK 7 5 127 op x na cl sp := (cs_c_ok (caX7_tear_212 okX7_isByte) (cs_c_ok (caX7_tear_118 okX7_mask) cs_0_ok))
theorem xcX7_tear : (∀ (Q : QT) (G : GT) (pc : Nat) (L : LV) (a0 a1 a2 a3 : Value) (r : List Value) (M : HM) (k n : Nat), ex_i 7 5 1 false csX7_tear Q G (.invokevirtual 212) pc L (a3 :: a2 :: a1 :: a0 :: r) M k n = (e_rm r ∧ e_rc M 7 [a0, a1, a2, a3] ∧ sp_X7_isByte [a0, a1, a2, a3] M k n (fun v M' k' n' => G (pc + 3) L (v.toList ++ r) M' k' n'))) ∧ (∀ (Q : QT) (G : GT) (pc : Nat) (L : LV) (a0 a1 a2 a3 : Value) (r : List Value) (M : HM) (k n : Nat), ex_i 7 5 1 false csX7_tear Q G (.invokevirtual 118) pc L (a3 :: a2 :: a1 :: a0 :: r) M k n = (e_rm r ∧ e_rc M 7 [a0, a1, a2, a3] ∧ sp_X7_mask [a0, a1, a2, a3] M k n (fun v M' k' n' => G (pc + 3) L (v.toList ++ r) M' k' n'))) := ⟨(fun _ _ _ _ _ _ _ _ _ _ _ _ => xv0_4 rfl), (fun _ _ _ _ _ _ _ _ _ _ _ _ => xv0_4 rfl)⟩
def sp_X7_tear : SP := fun as M k n Q => match as with
  | [.ref m, .int i, .int j, .int p, .int mz] => ∃ A O L z, MRp A O M m L z ∧ wft L ∧ ∀ U, MRp A O U m (aTear L i j p mz).2 z → Fr (Ss m) O O M U → Q (some (.int (aTear L i j p mz).1)) U k n
  | _ => False
theorem okX7_tear : OkX7_tear sp_X7_tear := by
  refine inX7_tear csoX7_tear ?_
  intro as M k n Q hsp
  unfold sp_X7_tear at hsp
  split at hsp
  rotate_left
  · exact hsp.elim
  rename_i m i j p mz
  obtain ⟨A, O, L, z, hR, hwt, hq⟩ := hsp
  have hM := hR.1
  have hO := hR.2.1
  have h0 := hM.1
  refine ⟨0, 0, Nat.zero_le _, Nat.zero_le _, Nat.le_of_ble_eq_true rfl, fun G hG => ?_⟩
  unfold aTear at hq
  refine e_g2 hG [(7, [0, 1, 2, 3, 4])] 60 ?_
  simp only [e_wp_s, Option.getD_some, Option.isSome_some, Option.isSome_none, xis0, xis1, xis2, xis3, xis4, e_ks, lk_k, lk_c, List.lookup_nil, gt_c, vi_i, k1_n, k1_c, k2_n, k2_c, ar_n, ar_c, pk_n, pk_c, rm_0, rm_1, rm_2, rm_3, rm_4, rm_5, rc_9, rcs, fvs, rf_s, rf_n, isI_i, isL_l, isR_r, isR_n, isR_q, ct_i, ct_l, ct_r, ct_n, ct_q, tFs, tCs, tKs, tJs, tSs, e_nf, lgs, ↓reduceIte, true_and, and_true, false_and, and_false, or_true, true_or, false_or, or_false, Nat.reduceAdd, Nat.reduceEqDiff, Nat.reduceDiv, Nat.reduceLT, Nat.reduceLeDiff, Nat.zero_add, reduceCtorEq, Bool.false_eq_true, Option.toList_some, Option.toList_none, List.cons_append, List.nil_append, not_true_eq_false, not_false_eq_true, Nat.sub_zero, dsX7_tear, jsX7_tear, xcX7_tear, h0]
  refine ⟨A, O, L, z, hR, hwt, fun hb => ?_, fun X U hb hC hby => ?_⟩
  · have hq' : Q (some (.int (-1))) M k n := by
      cases hs : ser L i with
      | none => rw [hs] at hq; exact hq M hR Fr.rf
      | some S =>
        have : blkA S.2.2.2.1 j = none := by unfold sblk at hb; rw [hs] at hb; exact hb
        simp only [hs, this] at hq
        exact hq M hR Fr.rf
    refine e_g2 hG [] 60 ?_
    simp only [e_wp_s, Option.getD_some, Option.isSome_some, Option.isSome_none, xis0, xis1, xis2, xis3, xis4, e_ks, lk_k, lk_c, List.lookup_nil, gt_c, vi_i, k1_n, k1_c, k2_n, k2_c, ar_n, ar_c, pk_n, pk_c, rm_0, rm_1, rm_2, rm_3, rm_4, rm_5, rc_9, rcs, fvs, rf_s, rf_n, isI_i, isL_l, isR_r, isR_n, isR_q, ct_i, ct_l, ct_r, ct_n, ct_q, tFs, tCs, tKs, tJs, tSs, e_nf, lgs, ↓reduceIte, true_and, and_true, false_and, and_false, or_true, true_or, false_or, or_false, Nat.reduceAdd, Nat.reduceEqDiff, Nat.reduceDiv, Nat.reduceLT, Nat.reduceLeDiff, Nat.zero_add, reduceCtorEq, Bool.false_eq_true, Option.toList_some, Option.toList_none, List.cons_append, List.nil_append, not_true_eq_false, not_false_eq_true, Nat.sub_zero, dsX7_tear, jsX7_tear, xcX7_tear]
    exact hq'
  · rcases hR.bk i j with hb2 | ⟨s, S, b, X', hb2, hs, rfl, h3, rfl, h5, h6, h7, h8, hbA⟩
    · rw [hb] at hb2; cases hb2
    · rw [hb] at hb2; cases hb2
      simp only [hs, hbA] at hq
      have hRU := hR.scr hC.w3
      have hMU := hC.ms hM
      have g0 := hMU.1
      by_cases c : ¬ p < 0 ∧ p < nI (((eB (enc X.1)).length + 7) / 8)
      · rw [if_pos c]
        simp only [c, not_false_eq_true, and_self, if_true] at hq
        by_cases c1 : mz < 0
        · rw [if_pos (Or.inl c1)] at hq
          refine e_g2 hG [] 60 ?_
          simp only [e_wp_s, Option.getD_some, Option.isSome_some, Option.isSome_none, xis0, xis1, xis2, xis3, xis4, e_ks, lk_k, lk_c, List.lookup_nil, gt_c, vi_i, k1_n, k1_c, k2_n, k2_c, ar_n, ar_c, pk_n, pk_c, rm_0, rm_1, rm_2, rm_3, rm_4, rm_5, rc_9, rcs, fvs, rf_s, rf_n, isI_i, isL_l, isR_r, isR_n, isR_q, ct_i, ct_l, ct_r, ct_n, ct_q, tFs, tCs, tKs, tJs, tSs, e_nf, lgs, ↓reduceIte, true_and, and_true, false_and, and_false, or_true, true_or, false_or, or_false, Nat.reduceAdd, Nat.reduceEqDiff, Nat.reduceDiv, Nat.reduceLT, Nat.reduceLeDiff, Nat.zero_add, reduceCtorEq, Bool.false_eq_true, Option.toList_some, Option.toList_none, List.cons_append, List.nil_append, not_true_eq_false, not_false_eq_true, Nat.sub_zero, dsX7_tear, jsX7_tear, xcX7_tear, i10, c1]
          exact hq U hRU hC.2.2.2.1
        by_cases c2 : 255 < mz
        · rw [if_pos (Or.inr c2)] at hq
          refine e_g2 hG [] 60 ?_
          simp only [e_wp_s, Option.getD_some, Option.isSome_some, Option.isSome_none, xis0, xis1, xis2, xis3, xis4, e_ks, lk_k, lk_c, List.lookup_nil, gt_c, vi_i, k1_n, k1_c, k2_n, k2_c, ar_n, ar_c, pk_n, pk_c, rm_0, rm_1, rm_2, rm_3, rm_4, rm_5, rc_9, rcs, fvs, rf_s, rf_n, isI_i, isL_l, isR_r, isR_n, isR_q, ct_i, ct_l, ct_r, ct_n, ct_q, tFs, tCs, tKs, tJs, tSs, e_nf, lgs, ↓reduceIte, true_and, and_true, false_and, and_false, or_true, true_or, false_or, or_false, Nat.reduceAdd, Nat.reduceEqDiff, Nat.reduceDiv, Nat.reduceLT, Nat.reduceLeDiff, Nat.zero_add, reduceCtorEq, Bool.false_eq_true, Option.toList_some, Option.toList_none, List.cons_append, List.nil_append, not_true_eq_false, not_false_eq_true, Nat.sub_zero, dsX7_tear, jsX7_tear, xcX7_tear, i10, c1, c2]
          exact hq U hRU hC.2.2.2.1
        rw [if_neg (fun q => q.elim c1 c2)] at hq
        have hBu := hC.mB (s := s) (by decide) h6.2.2.1
        have hw := h6.2.2.1.2.2.2 X (List.mem_of_getElem? h5)
        have hen := enc_1808 hw.2.1
        obtain ⟨q, hq31, rfl⟩ := nI_of c.1
        have c3 := (nI_ltI hq31 (by omega)).mp c.2
        simp only [nI_clamp hq31, nI_clamp (show s < 2 ^ 31 by omega), nI_clamp (show b < 2 ^ 31 by omega)] at hq
        have hT := (hBu.2.2.1 b X h5).2 q (by omega)
        obtain ⟨r236, k236, l236⟩ : mR U 236 m = some (A 236) ∧ mK U (A 236) = 9 ∧ mN U (A 236) = 655360 := hMU.2 236 rfl
        obtain ⟨r245, k245, l245⟩ : mR U 245 m = some (A 245) ∧ mK U (A 245) = 9 ∧ mN U (A 245) = 256 := hMU.2 245 rfl
        have e1 : (nI q).toNatClampNeg = q := nI_clamp hq31
        have e2 : vp_in (nI q) 256 := vp_in_nI (by omega) (by decide)
        have e3 : (nI (256 * (320 * s + b) + q)).toNatClampNeg = 256 * (320 * s + b) + q := nI_clamp (by omega)
        have e4 : vp_in (nI (256 * (320 * s + b) + q)) 655360 := vp_in_nI (by omega) (by decide)
        have e5 := hby q (by omega)
        have n236_245 : ¬ A 236 = A 245 := hO.ne (f := 236) (g := 245) rfl rfl (by decide)
        have n245_236 : ¬ A 245 = A 236 := hO.ne (f := 245) (g := 236) rfl rfl (by decide)
        refine e_g2 hG [] 60 ?_
        simp only [e_wp_s, Option.getD_some, Option.isSome_some, Option.isSome_none, xis0, xis1, xis2, xis3, xis4, e_ks, lk_k, lk_c, List.lookup_nil, gt_c, vi_i, k1_n, k1_c, k2_n, k2_c, ar_n, ar_c, pk_n, pk_c, rm_0, rm_1, rm_2, rm_3, rm_4, rm_5, rc_9, rcs, fvs, rf_s, rf_n, isI_i, isL_l, isR_r, isR_n, isR_q, ct_i, ct_l, ct_r, ct_n, ct_q, tFs, tCs, tKs, tJs, tSs, e_nf, lgs, ↓reduceIte, true_and, and_true, false_and, and_false, or_true, true_or, false_or, or_false, Nat.reduceAdd, Nat.reduceEqDiff, Nat.reduceDiv, Nat.reduceLT, Nat.reduceLeDiff, Nat.zero_add, reduceCtorEq, Bool.false_eq_true, Option.toList_some, Option.toList_none, List.cons_append, List.nil_append, not_true_eq_false, not_false_eq_true, Nat.sub_zero, dsX7_tear, jsX7_tear, xcX7_tear, g0, i10, c1, c2, r236, k236, l236, r245, k245, l245, n245_236, e1, e2, e3, e4, e5, hT, ↓sp_X7_mask, mst, hmK, hmN, hmI, hmL, hmR, haI, haL, haR, and_self]
        have hC2 : MC O A m [236] U (tI U (A 236) (256 * (320 * s + b) + q) (X.2 q ^^^ mz)) := MC.tI MC.rf hO (by decide) rfl
        have hI2 : MI A s U (tI U (A 236) (256 * (320 * s + b) + q) (X.2 q ^^^ mz)) := MI.tI MI.rf hO rfl (Or.inl (by
          rw [show dvf 236 = 81920 from rfl, show 256 * (320 * s + b) + q = 81920 * s + (256 * b + q) by omega, dq 81920 s _ (by omega)]))
        have hSU := hRU.2.2.2.1 s S h3
        obtain ⟨y1, y2, y3, y4, y5⟩ := hSU
        have hbl := (List.getElem?_eq_some_iff.mp h5).1
        have hset : mpts (S.2.2.2.1.set b (X.1, flx X.2 q mz)) = mpts S.2.2.2.1 := by
          have hd : S.2.2.2.1 = S.2.2.2.1.take b ++ ([X] ++ S.2.2.2.1.drop (b + 1)) := by
            conv => lhs; rw [← List.take_append_drop b S.2.2.2.1, List.drop_eq_getElem_cons hbl]
            congr 2
            exact (List.getElem?_eq_some_iff.mp h5).2
          rw [List.set_eq_take_append_cons_drop, if_pos hbl]
          conv => rhs; rw [hd]
          rw [mpts_app, mpts_app, mpts_app, mpts_1]
          congr 1
        refine hq _ (hRU.mut h3 hC2 hI2 (by decide) ⟨hC2.mH (by decide) y1, ?_, ⟨?_, ?_, fun b' x' hx' => ?_, fun x' hx' => ?_⟩, hC2.mT (by decide) y4, hC2.mSp (fun f h1 h2 => by intro hf; simp at hf; omega) (by decide) y5⟩) (hC.2.2.2.1.tr hC2.2.2.2.1)
        · show mP A _ s (mpts (S.2.2.2.1.set b (X.1, flx X.2 q mz)))
          rw [hset]; exact hC2.mP (by decide) y2
        · rw [(hC2.2.2.2.2.1 228 rfl (by decide)).1]
          show _ = nI (S.2.2.2.1.set b _).length
          rw [List.length_set]; exact y3.1
        · show (S.2.2.2.1.set b _).length ≤ 300
          rw [List.length_set]; exact y3.2.1
        · have hx'' : (S.2.2.2.1.set b (X.1, flx X.2 q mz))[b']? = some x' := hx'
          rw [(hC2.2.2.2.2.1 232 rfl (by decide)).1]
          simp only [haI, true_and]
          rw [List.getElem?_set] at hx''
          by_cases cb : b = b'
          · rw [if_pos cb, if_pos hbl] at hx''
            cases hx''
            subst cb
            refine ⟨(y3.2.2.1 b X h5).1, fun k hk => ?_⟩
            show _ = flx X.2 q mz k
            unfold flx
            by_cases ck : k = q
            · rw [if_pos (by omega), if_pos ck, ck]
            · rw [if_neg (by omega), if_neg ck]; exact (y3.2.2.1 b X h5).2 k hk
          · rw [if_neg cb] at hx''
            refine ⟨(y3.2.2.1 b' x' hx'').1, fun k hk => ?_⟩
            rw [if_neg (by omega)]
            exact (y3.2.2.1 b' x' hx'').2 k hk
        · have hx'' : x' ∈ S.2.2.2.1.set b (X.1, flx X.2 q mz) := hx'
          rcases List.mem_or_eq_of_mem_set hx'' with h | h
          · exact y3.2.2.2 x' h
          · rw [h]
            refine ⟨hw.1, hw.2.1, fun k hk => ?_⟩
            show flx X.2 q mz k = 0
            unfold flx
            rw [if_neg (by omega)]; exact hw.2.2 k hk
      · rw [if_neg c]
        rw [if_neg c] at hq
        refine e_g2 hG [] 60 ?_
        simp only [e_wp_s, Option.getD_some, Option.isSome_some, Option.isSome_none, xis0, xis1, xis2, xis3, xis4, e_ks, lk_k, lk_c, List.lookup_nil, gt_c, vi_i, k1_n, k1_c, k2_n, k2_c, ar_n, ar_c, pk_n, pk_c, rm_0, rm_1, rm_2, rm_3, rm_4, rm_5, rc_9, rcs, fvs, rf_s, rf_n, isI_i, isL_l, isR_r, isR_n, isR_q, ct_i, ct_l, ct_r, ct_n, ct_q, tFs, tCs, tKs, tJs, tSs, e_nf, lgs, ↓reduceIte, true_and, and_true, false_and, and_false, or_true, true_or, false_or, or_false, Nat.reduceAdd, Nat.reduceEqDiff, Nat.reduceDiv, Nat.reduceLT, Nat.reduceLeDiff, Nat.zero_add, reduceCtorEq, Bool.false_eq_true, Option.toList_some, Option.toList_none, List.cons_append, List.nil_append, not_true_eq_false, not_false_eq_true, Nat.sub_zero, dsX7_tear, jsX7_tear, xcX7_tear]
        exact hq U hRU hC.2.2.2.1
def csX7_cost : CS := (cs_c 0 197 3 7 sp_X7_isBlock (cs_c 0 111 3 7 sp_X7_spot (cs_c 0 122 3 7 sp_X7_isTorn (cs_c 0 200 3 7 sp_X7_write cs_0))))
theorem csoX7_cost : ∀ op x na cl sp, csX7_cost op x = some (na, cl, sp) → CallOK 7 4 104 op x na cl sp := (cs_c_ok (caX7_cost_197 okX7_isBlock) (cs_c_ok (caX7_cost_111 okX7_spot) (cs_c_ok (caX7_cost_122 okX7_isTorn) (cs_c_ok (caX7_cost_200 okX7_write) cs_0_ok))))
theorem xcX7_cost : (∀ (Q : QT) (G : GT) (pc : Nat) (L : LV) (a0 a1 a2 : Value) (r : List Value) (M : HM) (k n : Nat), ex_i 7 4 1 false csX7_cost Q G (.invokevirtual 197) pc L (a2 :: a1 :: a0 :: r) M k n = (e_rm r ∧ e_rc M 7 [a0, a1, a2] ∧ sp_X7_isBlock [a0, a1, a2] M k n (fun v M' k' n' => G (pc + 3) L (v.toList ++ r) M' k' n'))) ∧ (∀ (Q : QT) (G : GT) (pc : Nat) (L : LV) (a0 a1 a2 : Value) (r : List Value) (M : HM) (k n : Nat), ex_i 7 4 1 false csX7_cost Q G (.invokevirtual 111) pc L (a2 :: a1 :: a0 :: r) M k n = (e_rm r ∧ e_rc M 7 [a0, a1, a2] ∧ sp_X7_spot [a0, a1, a2] M k n (fun v M' k' n' => G (pc + 3) L (v.toList ++ r) M' k' n'))) ∧ (∀ (Q : QT) (G : GT) (pc : Nat) (L : LV) (a0 a1 a2 : Value) (r : List Value) (M : HM) (k n : Nat), ex_i 7 4 1 false csX7_cost Q G (.invokevirtual 122) pc L (a2 :: a1 :: a0 :: r) M k n = (e_rm r ∧ e_rc M 7 [a0, a1, a2] ∧ sp_X7_isTorn [a0, a1, a2] M k n (fun v M' k' n' => G (pc + 3) L (v.toList ++ r) M' k' n'))) ∧ (∀ (Q : QT) (G : GT) (pc : Nat) (L : LV) (a0 a1 a2 : Value) (r : List Value) (M : HM) (k n : Nat), ex_i 7 4 1 false csX7_cost Q G (.invokevirtual 200) pc L (a2 :: a1 :: a0 :: r) M k n = (e_rm r ∧ e_rc M 7 [a0, a1, a2] ∧ sp_X7_write [a0, a1, a2] M k n (fun v M' k' n' => G (pc + 3) L (v.toList ++ r) M' k' n'))) := ⟨(fun _ _ _ _ _ _ _ _ _ _ _ => xv0_3 rfl), (fun _ _ _ _ _ _ _ _ _ _ _ => xv0_3 rfl), (fun _ _ _ _ _ _ _ _ _ _ _ => xv0_3 rfl), (fun _ _ _ _ _ _ _ _ _ _ _ => xv0_3 rfl)⟩
def sp_X7_cost : SP := fun as M k n Q => match as with
  | [.ref m, .int i, .int j, .int p] => ∃ A O L z, MRp A O M m L z ∧ wft L ∧ ∀ U, MRp A O U m L z → Fr (Ss m) O O M U → Q (some (.int (aCost L i j p))) U k n
  | _ => False
theorem okX7_cost : OkX7_cost sp_X7_cost := by
  refine inX7_cost csoX7_cost ?_
  intro as M k n Q hsp
  unfold sp_X7_cost at hsp
  split at hsp
  rotate_left
  · exact hsp.elim
  rename_i m i j p
  obtain ⟨A, O, L, z, hR, hwt, hq⟩ := hsp
  have hM := hR.1
  have h0 := hM.1
  obtain ⟨r232, k232, l232⟩ : mR M 232 m = some (A 232) ∧ mK M (A 232) = 9 ∧ mN M (A 232) = 2560 := hM.2 232 rfl
  refine ⟨0, 0, Nat.zero_le _, Nat.zero_le _, Nat.le_of_ble_eq_true rfl, fun G hG => ?_⟩
  unfold aCost at hq
  refine e_g2 hG [(6, [0, 1, 2, 3])] 60 ?_
  simp only [e_wp_s, Option.getD_some, Option.isSome_some, Option.isSome_none, xis0, xis1, xis2, xis3, xis4, e_ks, lk_k, lk_c, List.lookup_nil, gt_c, vi_i, k1_n, k1_c, k2_n, k2_c, ar_n, ar_c, pk_n, pk_c, rm_0, rm_1, rm_2, rm_3, rm_4, rm_5, rc_9, rcs, fvs, rf_s, rf_n, isI_i, isL_l, isR_r, isR_n, isR_q, ct_i, ct_l, ct_r, ct_n, ct_q, tFs, tCs, tKs, tJs, tSs, e_nf, lgs, ↓reduceIte, true_and, and_true, false_and, and_false, or_true, true_or, false_or, or_false, Nat.reduceAdd, Nat.reduceEqDiff, Nat.reduceDiv, Nat.reduceLT, Nat.reduceLeDiff, Nat.zero_add, reduceCtorEq, Bool.false_eq_true, Option.toList_some, Option.toList_none, List.cons_append, List.nil_append, not_true_eq_false, not_false_eq_true, Nat.sub_zero, dsX7_cost, jsX7_cost, xcX7_cost, h0]
  refine ⟨A, O, L, z, hR, ?_⟩
  rcases hR.bk i j with hb | ⟨s, S, b, X, hb, -, rfl, h3, rfl, h5, h6, h7, h8, -⟩
  · rw [hb] at hq ⊢
    refine e_g2 hG [] 60 ?_
    simp only [e_wp_s, Option.getD_some, Option.isSome_some, Option.isSome_none, xis0, xis1, xis2, xis3, xis4, e_ks, lk_k, lk_c, List.lookup_nil, gt_c, vi_i, k1_n, k1_c, k2_n, k2_c, ar_n, ar_c, pk_n, pk_c, rm_0, rm_1, rm_2, rm_3, rm_4, rm_5, rc_9, rcs, fvs, rf_s, rf_n, isI_i, isL_l, isR_r, isR_n, isR_q, ct_i, ct_l, ct_r, ct_n, ct_q, tFs, tCs, tKs, tJs, tSs, e_nf, lgs, ↓reduceIte, true_and, and_true, false_and, and_false, or_true, true_or, false_or, or_false, Nat.reduceAdd, Nat.reduceEqDiff, Nat.reduceDiv, Nat.reduceLT, Nat.reduceLeDiff, Nat.zero_add, reduceCtorEq, Bool.false_eq_true, Option.toList_some, Option.toList_none, List.cons_append, List.nil_append, not_true_eq_false, not_false_eq_true, Nat.sub_zero, dsX7_cost, jsX7_cost, xcX7_cost]
    exact hq M hR Fr.rf
  · simp only [hb] at hq
    rw [hb]
    have hsz := (h6.2.2.1.2.2.1 b X h5).1
    have h16 := (h6.2.2.1.2.2.2 X (List.mem_of_getElem? h5)).2.1
    have f2 : (nI (320 * s + b)).toNatClampNeg = 320 * s + b := nI_clamp (by omega)
    have f3 : vp_in (nI (320 * s + b)) 2560 := vp_in_nI (by omega) (by decide)
    by_cases c1 : p < 0
    · rw [if_neg (fun q => q.1 c1)] at hq
      refine e_g2 hG [] 60 ?_
      simp only [e_wp_s, Option.getD_some, Option.isSome_some, Option.isSome_none, xis0, xis1, xis2, xis3, xis4, e_ks, lk_k, lk_c, List.lookup_nil, gt_c, vi_i, k1_n, k1_c, k2_n, k2_c, ar_n, ar_c, pk_n, pk_c, rm_0, rm_1, rm_2, rm_3, rm_4, rm_5, rc_9, rcs, fvs, rf_s, rf_n, isI_i, isL_l, isR_r, isR_n, isR_q, ct_i, ct_l, ct_r, ct_n, ct_q, tFs, tCs, tKs, tJs, tSs, e_nf, lgs, ↓reduceIte, true_and, and_true, false_and, and_false, or_true, true_or, false_or, or_false, Nat.reduceAdd, Nat.reduceEqDiff, Nat.reduceDiv, Nat.reduceLT, Nat.reduceLeDiff, Nat.zero_add, reduceCtorEq, Bool.false_eq_true, Option.toList_some, Option.toList_none, List.cons_append, List.nil_append, not_true_eq_false, not_false_eq_true, Nat.sub_zero, dsX7_cost, jsX7_cost, xcX7_cost, i10, c1]
      exact hq M hR Fr.rf
    by_cases c2 : p < nI X.1.length
    · rw [if_pos ⟨c1, c2⟩] at hq
      refine e_g2 hG [(36, [0, 1, 2, 3])] 60 ?_
      simp only [e_wp_s, Option.getD_some, Option.isSome_some, Option.isSome_none, xis0, xis1, xis2, xis3, xis4, e_ks, lk_k, lk_c, List.lookup_nil, gt_c, vi_i, k1_n, k1_c, k2_n, k2_c, ar_n, ar_c, pk_n, pk_c, rm_0, rm_1, rm_2, rm_3, rm_4, rm_5, rc_9, rcs, fvs, rf_s, rf_n, isI_i, isL_l, isR_r, isR_n, isR_q, ct_i, ct_l, ct_r, ct_n, ct_q, tFs, tCs, tKs, tJs, tSs, e_nf, lgs, ↓reduceIte, true_and, and_true, false_and, and_false, or_true, true_or, false_or, or_false, Nat.reduceAdd, Nat.reduceEqDiff, Nat.reduceDiv, Nat.reduceLT, Nat.reduceLeDiff, Nat.zero_add, reduceCtorEq, Bool.false_eq_true, Option.toList_some, Option.toList_none, List.cons_append, List.nil_append, not_true_eq_false, not_false_eq_true, Nat.sub_zero, dsX7_cost, jsX7_cost, xcX7_cost, h0, r232, k232, l232, i10, c1, c2, f2, f3, hsz, ↓sp_X7_spot, spt]
      refine ⟨A, s, b, _, X, hM, h7, h6.2.2.1, rfl, rfl, h5, ?_⟩
      by_cases ct : tornB X = true
      · rw [if_pos ct] at hq ⊢
        refine e_g2 hG [] 60 ?_
        simp only [e_wp_s, Option.getD_some, Option.isSome_some, Option.isSome_none, xis0, xis1, xis2, xis3, xis4, e_ks, lk_k, lk_c, List.lookup_nil, gt_c, vi_i, k1_n, k1_c, k2_n, k2_c, ar_n, ar_c, pk_n, pk_c, rm_0, rm_1, rm_2, rm_3, rm_4, rm_5, rc_9, rcs, fvs, rf_s, rf_n, isI_i, isL_l, isR_r, isR_n, isR_q, ct_i, ct_l, ct_r, ct_n, ct_q, tFs, tCs, tKs, tJs, tSs, e_nf, lgs, ↓reduceIte, true_and, and_true, false_and, and_false, or_true, true_or, false_or, or_false, Nat.reduceAdd, Nat.reduceEqDiff, Nat.reduceDiv, Nat.reduceLT, Nat.reduceLeDiff, Nat.zero_add, reduceCtorEq, Bool.false_eq_true, Option.toList_some, Option.toList_none, List.cons_append, List.nil_append, not_true_eq_false, not_false_eq_true, Nat.sub_zero, dsX7_cost, jsX7_cost, xcX7_cost, i10]
        exact hq M hR Fr.rf
      · rw [if_neg ct] at hq ⊢
        have htm := tmO_blk (hwt S (List.mem_of_getElem? h3)) h5
        refine e_g2 hG [(48, [0, 1, 2, 3])] 60 ?_
        simp only [e_wp_s, Option.getD_some, Option.isSome_some, Option.isSome_none, xis0, xis1, xis2, xis3, xis4, e_ks, lk_k, lk_c, List.lookup_nil, gt_c, vi_i, k1_n, k1_c, k2_n, k2_c, ar_n, ar_c, pk_n, pk_c, rm_0, rm_1, rm_2, rm_3, rm_4, rm_5, rc_9, rcs, fvs, rf_s, rf_n, isI_i, isL_l, isR_r, isR_n, isR_q, ct_i, ct_l, ct_r, ct_n, ct_q, tFs, tCs, tKs, tJs, tSs, e_nf, lgs, ↓reduceIte, true_and, and_true, false_and, and_false, or_true, true_or, false_or, or_false, Nat.reduceAdd, Nat.reduceEqDiff, Nat.reduceDiv, Nat.reduceLT, Nat.reduceLeDiff, Nat.zero_add, reduceCtorEq, Bool.false_eq_true, Option.toList_some, Option.toList_none, List.cons_append, List.nil_append, not_true_eq_false, not_false_eq_true, Nat.sub_zero, dsX7_cost, jsX7_cost, xcX7_cost, h0]
        refine ⟨O, A, s, b, _, X, hM, hR.2.1, h7, h6.2.2.1, h6.2.1, rfl, rfl, h5, htm, fun U hC hby hbi hco => ?_⟩
        obtain ⟨q, hq31, rfl⟩ := nI_of c1
        have c3 := (nI_ltI hq31 (by omega)).mp c2
        have hMU := hC.ms hM
        have g0 := hMU.1
        obtain ⟨r246, k246, l246⟩ : mR U 246 m = some (A 246) ∧ mK U (A 246) = 9 ∧ mN U (A 246) = 16 := hMU.2 246 rfl
        have e1 : (nI q).toNatClampNeg = q := nI_clamp hq31
        have e2 : vp_in (nI q) 16 := vp_in_nI (by omega) (by decide)
        have e3 := hco q c3
        rw [e1] at hq
        refine e_g2 hG [] 60 ?_
        simp only [e_wp_s, Option.getD_some, Option.isSome_some, Option.isSome_none, xis0, xis1, xis2, xis3, xis4, e_ks, lk_k, lk_c, List.lookup_nil, gt_c, vi_i, k1_n, k1_c, k2_n, k2_c, ar_n, ar_c, pk_n, pk_c, rm_0, rm_1, rm_2, rm_3, rm_4, rm_5, rc_9, rcs, fvs, rf_s, rf_n, isI_i, isL_l, isR_r, isR_n, isR_q, ct_i, ct_l, ct_r, ct_n, ct_q, tFs, tCs, tKs, tJs, tSs, e_nf, lgs, ↓reduceIte, true_and, and_true, false_and, and_false, or_true, true_or, false_or, or_false, Nat.reduceAdd, Nat.reduceEqDiff, Nat.reduceDiv, Nat.reduceLT, Nat.reduceLeDiff, Nat.zero_add, reduceCtorEq, Bool.false_eq_true, Option.toList_some, Option.toList_none, List.cons_append, List.nil_append, not_true_eq_false, not_false_eq_true, Nat.sub_zero, dsX7_cost, jsX7_cost, xcX7_cost, g0, r246, k246, l246, e1, e2, e3]
        exact hq U (hR.scr hC.w3) hC.2.2.2.1
    · rw [if_neg (fun q => c2 q.2)] at hq
      refine e_g2 hG [] 60 ?_
      simp only [e_wp_s, Option.getD_some, Option.isSome_some, Option.isSome_none, xis0, xis1, xis2, xis3, xis4, e_ks, lk_k, lk_c, List.lookup_nil, gt_c, vi_i, k1_n, k1_c, k2_n, k2_c, ar_n, ar_c, pk_n, pk_c, rm_0, rm_1, rm_2, rm_3, rm_4, rm_5, rc_9, rcs, fvs, rf_s, rf_n, isI_i, isL_l, isR_r, isR_n, isR_q, ct_i, ct_l, ct_r, ct_n, ct_q, tFs, tCs, tKs, tJs, tSs, e_nf, lgs, ↓reduceIte, true_and, and_true, false_and, and_false, or_true, true_or, false_or, or_false, Nat.reduceAdd, Nat.reduceEqDiff, Nat.reduceDiv, Nat.reduceLT, Nat.reduceLeDiff, Nat.zero_add, reduceCtorEq, Bool.false_eq_true, Option.toList_some, Option.toList_none, List.cons_append, List.nil_append, not_true_eq_false, not_false_eq_true, Nat.sub_zero, dsX7_cost, jsX7_cost, xcX7_cost, h0, r232, k232, l232, i10, c1, c2, f2, f3, hsz, ↓sp_X7_spot, spt]
      exact hq M hR Fr.rf
def csX7_point : CS := (cs_c 0 197 3 7 sp_X7_isBlock (cs_c 0 111 3 7 sp_X7_spot (cs_c 0 122 3 7 sp_X7_isTorn (cs_c 0 115 3 7 sp_X7_start cs_0))))
theorem csoX7_point : ∀ op x na cl sp, csX7_point op x = some (na, cl, sp) → CallOK 7 3 68 op x na cl sp := (cs_c_ok (caX7_point_197 okX7_isBlock) (cs_c_ok (caX7_point_111 okX7_spot) (cs_c_ok (caX7_point_122 okX7_isTorn) (cs_c_ok (caX7_point_115 okX7_start) cs_0_ok))))
theorem xcX7_point : (∀ (Q : QT) (G : GT) (pc : Nat) (L : LV) (a0 a1 a2 : Value) (r : List Value) (M : HM) (k n : Nat), ex_i 7 5 2 false csX7_point Q G (.invokevirtual 197) pc L (a2 :: a1 :: a0 :: r) M k n = (e_rm r ∧ e_rc M 7 [a0, a1, a2] ∧ sp_X7_isBlock [a0, a1, a2] M k n (fun v M' k' n' => G (pc + 3) L (v.toList ++ r) M' k' n'))) ∧ (∀ (Q : QT) (G : GT) (pc : Nat) (L : LV) (a0 a1 a2 : Value) (r : List Value) (M : HM) (k n : Nat), ex_i 7 5 2 false csX7_point Q G (.invokevirtual 111) pc L (a2 :: a1 :: a0 :: r) M k n = (e_rm r ∧ e_rc M 7 [a0, a1, a2] ∧ sp_X7_spot [a0, a1, a2] M k n (fun v M' k' n' => G (pc + 3) L (v.toList ++ r) M' k' n'))) ∧ (∀ (Q : QT) (G : GT) (pc : Nat) (L : LV) (a0 a1 a2 : Value) (r : List Value) (M : HM) (k n : Nat), ex_i 7 5 2 false csX7_point Q G (.invokevirtual 122) pc L (a2 :: a1 :: a0 :: r) M k n = (e_rm r ∧ e_rc M 7 [a0, a1, a2] ∧ sp_X7_isTorn [a0, a1, a2] M k n (fun v M' k' n' => G (pc + 3) L (v.toList ++ r) M' k' n'))) ∧ (∀ (Q : QT) (G : GT) (pc : Nat) (L : LV) (a0 a1 a2 : Value) (r : List Value) (M : HM) (k n : Nat), ex_i 7 5 2 false csX7_point Q G (.invokevirtual 115) pc L (a2 :: a1 :: a0 :: r) M k n = (e_rm r ∧ e_rc M 7 [a0, a1, a2] ∧ sp_X7_start [a0, a1, a2] M k n (fun v M' k' n' => G (pc + 3) L (v.toList ++ r) M' k' n'))) := ⟨(fun _ _ _ _ _ _ _ _ _ _ _ => xv0_3 rfl), (fun _ _ _ _ _ _ _ _ _ _ _ => xv0_3 rfl), (fun _ _ _ _ _ _ _ _ _ _ _ => xv0_3 rfl), (fun _ _ _ _ _ _ _ _ _ _ _ => xv0_3 rfl)⟩
def sp_X7_point : SP := fun as M k n Q => match as with
  | [.ref m, .int i, .int j, .int p, .int w] => ∃ A O L z, MRp A O M m L z ∧ Q (some (.long (aPoint L i j p w))) M k n
  | _ => False
theorem okX7_point : OkX7_point sp_X7_point := by
  refine inX7_point csoX7_point ?_
  intro as M k n Q hsp
  unfold sp_X7_point at hsp
  split at hsp
  rotate_left
  · exact hsp.elim
  rename_i m i j p w
  obtain ⟨A, O, L, z, hR, hq⟩ := hsp
  have hM := hR.1
  have h0 := hM.1
  obtain ⟨r231, k231, l231⟩ : mR M 231 m = some (A 231) ∧ mK M (A 231) = 9 ∧ mN M (A 231) = 2560 := hM.2 231 rfl
  obtain ⟨r232, k232, l232⟩ : mR M 232 m = some (A 232) ∧ mK M (A 232) = 9 ∧ mN M (A 232) = 2560 := hM.2 232 rfl
  obtain ⟨r234, k234, l234⟩ : mR M 234 m = some (A 234) ∧ mK M (A 234) = 10 ∧ mN M (A 234) = 2560 := hM.2 234 rfl
  refine ⟨0, 0, Nat.zero_le _, Nat.zero_le _, Nat.le_of_ble_eq_true rfl, fun G hG => ?_⟩
  unfold aPoint at hq
  refine e_g2 hG [(6, [0, 1, 2, 3, 4])] 60 ?_
  simp only [e_wp_s, Option.getD_some, Option.isSome_some, Option.isSome_none, xis0, xis1, xis2, xis3, xis4, e_ks, lk_k, lk_c, List.lookup_nil, gt_c, vi_i, k1_n, k1_c, k2_n, k2_c, ar_n, ar_c, pk_n, pk_c, rm_0, rm_1, rm_2, rm_3, rm_4, rm_5, rc_9, rcs, fvs, rf_s, rf_n, isI_i, isL_l, isR_r, isR_n, isR_q, ct_i, ct_l, ct_r, ct_n, ct_q, tFs, tCs, tKs, tJs, tSs, e_nf, lgs, ↓reduceIte, true_and, and_true, false_and, and_false, or_true, true_or, false_or, or_false, Nat.reduceAdd, Nat.reduceEqDiff, Nat.reduceDiv, Nat.reduceLT, Nat.reduceLeDiff, Nat.zero_add, reduceCtorEq, Bool.false_eq_true, Option.toList_some, Option.toList_none, List.cons_append, List.nil_append, not_true_eq_false, not_false_eq_true, Nat.sub_zero, dsX7_point, jsX7_point, xcX7_point, h0]
  refine ⟨A, O, L, z, hR, ?_⟩
  rcases hR.bk i j with hb | ⟨s, S, b, X, hb, -, rfl, h3, rfl, h5, h6, h7, h8, -⟩
  · rw [hb] at hq ⊢
    refine e_g2 hG [] 60 ?_
    simp only [e_wp_s, Option.getD_some, Option.isSome_some, Option.isSome_none, xis0, xis1, xis2, xis3, xis4, e_ks, lk_k, lk_c, List.lookup_nil, gt_c, vi_i, k1_n, k1_c, k2_n, k2_c, ar_n, ar_c, pk_n, pk_c, rm_0, rm_1, rm_2, rm_3, rm_4, rm_5, rc_9, rcs, fvs, rf_s, rf_n, isI_i, isL_l, isR_r, isR_n, isR_q, ct_i, ct_l, ct_r, ct_n, ct_q, tFs, tCs, tKs, tJs, tSs, e_nf, lgs, ↓reduceIte, true_and, and_true, false_and, and_false, or_true, true_or, false_or, or_false, Nat.reduceAdd, Nat.reduceEqDiff, Nat.reduceDiv, Nat.reduceLT, Nat.reduceLeDiff, Nat.zero_add, reduceCtorEq, Bool.false_eq_true, Option.toList_some, Option.toList_none, List.cons_append, List.nil_append, not_true_eq_false, not_false_eq_true, Nat.sub_zero, dsX7_point, jsX7_point, xcX7_point]
    exact hq
  · simp only [hb] at hq
    rw [hb]
    have hsz := (h6.2.2.1.2.2.1 b X h5).1
    have h16 := (h6.2.2.1.2.2.2 X (List.mem_of_getElem? h5)).2.1
    have hbl := (List.getElem?_eq_some_iff.mp h5).1
    have f2 : (nI (320 * s + b)).toNatClampNeg = 320 * s + b := nI_clamp (by omega)
    have f3 : vp_in (nI (320 * s + b)) 2560 := vp_in_nI (by omega) (by decide)
    by_cases c1 : p < 0
    · rw [if_neg (fun q => q.1 c1)] at hq
      refine e_g2 hG [] 60 ?_
      simp only [e_wp_s, Option.getD_some, Option.isSome_some, Option.isSome_none, xis0, xis1, xis2, xis3, xis4, e_ks, lk_k, lk_c, List.lookup_nil, gt_c, vi_i, k1_n, k1_c, k2_n, k2_c, ar_n, ar_c, pk_n, pk_c, rm_0, rm_1, rm_2, rm_3, rm_4, rm_5, rc_9, rcs, fvs, rf_s, rf_n, isI_i, isL_l, isR_r, isR_n, isR_q, ct_i, ct_l, ct_r, ct_n, ct_q, tFs, tCs, tKs, tJs, tSs, e_nf, lgs, ↓reduceIte, true_and, and_true, false_and, and_false, or_true, true_or, false_or, or_false, Nat.reduceAdd, Nat.reduceEqDiff, Nat.reduceDiv, Nat.reduceLT, Nat.reduceLeDiff, Nat.zero_add, reduceCtorEq, Bool.false_eq_true, Option.toList_some, Option.toList_none, List.cons_append, List.nil_append, not_true_eq_false, not_false_eq_true, Nat.sub_zero, dsX7_point, jsX7_point, xcX7_point, i10, c1]
      exact hq
    by_cases c2 : p < nI X.1.length
    · rw [if_pos ⟨c1, c2⟩] at hq
      refine e_g2 hG [(34, [0, 1, 2, 3, 4])] 60 ?_
      simp only [e_wp_s, Option.getD_some, Option.isSome_some, Option.isSome_none, xis0, xis1, xis2, xis3, xis4, e_ks, lk_k, lk_c, List.lookup_nil, gt_c, vi_i, k1_n, k1_c, k2_n, k2_c, ar_n, ar_c, pk_n, pk_c, rm_0, rm_1, rm_2, rm_3, rm_4, rm_5, rc_9, rcs, fvs, rf_s, rf_n, isI_i, isL_l, isR_r, isR_n, isR_q, ct_i, ct_l, ct_r, ct_n, ct_q, tFs, tCs, tKs, tJs, tSs, e_nf, lgs, ↓reduceIte, true_and, and_true, false_and, and_false, or_true, true_or, false_or, or_false, Nat.reduceAdd, Nat.reduceEqDiff, Nat.reduceDiv, Nat.reduceLT, Nat.reduceLeDiff, Nat.zero_add, reduceCtorEq, Bool.false_eq_true, Option.toList_some, Option.toList_none, List.cons_append, List.nil_append, not_true_eq_false, not_false_eq_true, Nat.sub_zero, dsX7_point, jsX7_point, xcX7_point, h0, r232, k232, l232, i10, c1, c2, f2, f3, hsz, ↓sp_X7_spot, spt]
      refine ⟨A, s, b, _, X, hM, h7, h6.2.2.1, rfl, rfl, h5, ?_⟩
      by_cases ct : tornB X = true
      · rw [if_pos ct] at hq ⊢
        refine e_g2 hG [] 60 ?_
        simp only [e_wp_s, Option.getD_some, Option.isSome_some, Option.isSome_none, xis0, xis1, xis2, xis3, xis4, e_ks, lk_k, lk_c, List.lookup_nil, gt_c, vi_i, k1_n, k1_c, k2_n, k2_c, ar_n, ar_c, pk_n, pk_c, rm_0, rm_1, rm_2, rm_3, rm_4, rm_5, rc_9, rcs, fvs, rf_s, rf_n, isI_i, isL_l, isR_r, isR_n, isR_q, ct_i, ct_l, ct_r, ct_n, ct_q, tFs, tCs, tKs, tJs, tSs, e_nf, lgs, ↓reduceIte, true_and, and_true, false_and, and_false, or_true, true_or, false_or, or_false, Nat.reduceAdd, Nat.reduceEqDiff, Nat.reduceDiv, Nat.reduceLT, Nat.reduceLeDiff, Nat.zero_add, reduceCtorEq, Bool.false_eq_true, Option.toList_some, Option.toList_none, List.cons_append, List.nil_append, not_true_eq_false, not_false_eq_true, Nat.sub_zero, dsX7_point, jsX7_point, xcX7_point, i10]
        exact hq
      · rw [if_neg ct] at hq ⊢
        obtain ⟨q, hq31, rfl⟩ := nI_of c1
        have c3 := (nI_ltI hq31 (by omega)).mp c2
        rw [nI_clamp hq31] at hq
        obtain ⟨y, hy⟩ : ∃ y, X.1[q]? = some y := ⟨_, List.getElem?_eq_getElem c3⟩
        rw [hy] at hq
        have h1 := mpts_at h5 c3
        rw [hy] at h1
        obtain ⟨w1, w2, w3, w4⟩ := mP_at h6.2.1 h1
        have e1 : (nI (320 * s + (mpts (S.2.2.2.1.take b)).length + q)).toNatClampNeg = 320 * s + ((mpts (S.2.2.2.1.take b)).length + q) := by rw [nI_clamp (by omega)]; omega
        have e2 : vp_in (nI (320 * s + (mpts (S.2.2.2.1.take b)).length + q)) 2560 := vp_in_nI (by omega) (by decide)
        have hq : Q (some (.long (aLat y w))) M k n := hq
        unfold aLat at hq
        by_cases c0 : w = 0
        · subst c0
          have z1 : ¬ (0 : Int32) < 0 := by decide
          have z2 : ¬ (1 : Int32) < 0 := by decide
          refine e_g2 hG [(67, [0, 1, 2, 3])] 60 ?_
          simp only [e_wp_s, Option.getD_some, Option.isSome_some, Option.isSome_none, xis0, xis1, xis2, xis3, xis4, e_ks, lk_k, lk_c, List.lookup_nil, gt_c, vi_i, k1_n, k1_c, k2_n, k2_c, ar_n, ar_c, pk_n, pk_c, rm_0, rm_1, rm_2, rm_3, rm_4, rm_5, rc_9, rcs, fvs, rf_s, rf_n, isI_i, isL_l, isR_r, isR_n, isR_q, ct_i, ct_l, ct_r, ct_n, ct_q, tFs, tCs, tKs, tJs, tSs, e_nf, lgs, ↓reduceIte, true_and, and_true, false_and, and_false, or_true, true_or, false_or, or_false, Nat.reduceAdd, Nat.reduceEqDiff, Nat.reduceDiv, Nat.reduceLT, Nat.reduceLeDiff, Nat.zero_add, reduceCtorEq, Bool.false_eq_true, Option.toList_some, Option.toList_none, List.cons_append, List.nil_append, not_true_eq_false, not_false_eq_true, Nat.sub_zero, dsX7_point, jsX7_point, xcX7_point, h0, r231, k231, l231, i10, z1, z2]
          refine ⟨A, s, b, _, hM, h7, h6.2.2.1, rfl, rfl, by omega, ?_⟩
          refine e_g2 hG [] 60 ?_
          simp only [e_wp_s, Option.getD_some, Option.isSome_some, Option.isSome_none, xis0, xis1, xis2, xis3, xis4, e_ks, lk_k, lk_c, List.lookup_nil, gt_c, vi_i, k1_n, k1_c, k2_n, k2_c, ar_n, ar_c, pk_n, pk_c, rm_0, rm_1, rm_2, rm_3, rm_4, rm_5, rc_9, rcs, fvs, rf_s, rf_n, isI_i, isL_l, isR_r, isR_n, isR_q, ct_i, ct_l, ct_r, ct_n, ct_q, tFs, tCs, tKs, tJs, tSs, e_nf, lgs, ↓reduceIte, true_and, and_true, false_and, and_false, or_true, true_or, false_or, or_false, Nat.reduceAdd, Nat.reduceEqDiff, Nat.reduceDiv, Nat.reduceLT, Nat.reduceLeDiff, Nat.zero_add, reduceCtorEq, Bool.false_eq_true, Option.toList_some, Option.toList_none, List.cons_append, List.nil_append, not_true_eq_false, not_false_eq_true, Nat.sub_zero, dsX7_point, jsX7_point, xcX7_point, r231, k231, l231, nI_add, e1, e2, w1]
          simpa using hq
        by_cases c1' : w = 1
        · subst c1'
          have z1 : ¬ (1 : Int32) < 0 := by decide
          have z2 : ¬ (1 : Int32) < 1 := by decide
          refine e_g2 hG [(84, [0, 1, 2, 3])] 60 ?_
          simp only [e_wp_s, Option.getD_some, Option.isSome_some, Option.isSome_none, xis0, xis1, xis2, xis3, xis4, e_ks, lk_k, lk_c, List.lookup_nil, gt_c, vi_i, k1_n, k1_c, k2_n, k2_c, ar_n, ar_c, pk_n, pk_c, rm_0, rm_1, rm_2, rm_3, rm_4, rm_5, rc_9, rcs, fvs, rf_s, rf_n, isI_i, isL_l, isR_r, isR_n, isR_q, ct_i, ct_l, ct_r, ct_n, ct_q, tFs, tCs, tKs, tJs, tSs, e_nf, lgs, ↓reduceIte, true_and, and_true, false_and, and_false, or_true, true_or, false_or, or_false, Nat.reduceAdd, Nat.reduceEqDiff, Nat.reduceDiv, Nat.reduceLT, Nat.reduceLeDiff, Nat.zero_add, reduceCtorEq, Bool.false_eq_true, Option.toList_some, Option.toList_none, List.cons_append, List.nil_append, not_true_eq_false, not_false_eq_true, Nat.sub_zero, dsX7_point, jsX7_point, xcX7_point, h0, r234, k234, l234, i10, z1, z2]
          refine ⟨A, s, b, _, hM, h7, h6.2.2.1, rfl, rfl, by omega, ?_⟩
          refine e_g2 hG [] 60 ?_
          simp only [e_wp_s, Option.getD_some, Option.isSome_some, Option.isSome_none, xis0, xis1, xis2, xis3, xis4, e_ks, lk_k, lk_c, List.lookup_nil, gt_c, vi_i, k1_n, k1_c, k2_n, k2_c, ar_n, ar_c, pk_n, pk_c, rm_0, rm_1, rm_2, rm_3, rm_4, rm_5, rc_9, rcs, fvs, rf_s, rf_n, isI_i, isL_l, isR_r, isR_n, isR_q, ct_i, ct_l, ct_r, ct_n, ct_q, tFs, tCs, tKs, tJs, tSs, e_nf, lgs, ↓reduceIte, true_and, and_true, false_and, and_false, or_true, true_or, false_or, or_false, Nat.reduceAdd, Nat.reduceEqDiff, Nat.reduceDiv, Nat.reduceLT, Nat.reduceLeDiff, Nat.zero_add, reduceCtorEq, Bool.false_eq_true, Option.toList_some, Option.toList_none, List.cons_append, List.nil_append, not_true_eq_false, not_false_eq_true, Nat.sub_zero, dsX7_point, jsX7_point, xcX7_point, r234, k234, l234, nI_add, e1, e2, w2]
          simpa using hq
        rw [if_neg c0, if_neg c1'] at hq
        by_cases d0 : w < 0
        · refine e_g2 hG [] 60 ?_
          simp only [e_wp_s, Option.getD_some, Option.isSome_some, Option.isSome_none, xis0, xis1, xis2, xis3, xis4, e_ks, lk_k, lk_c, List.lookup_nil, gt_c, vi_i, k1_n, k1_c, k2_n, k2_c, ar_n, ar_c, pk_n, pk_c, rm_0, rm_1, rm_2, rm_3, rm_4, rm_5, rc_9, rcs, fvs, rf_s, rf_n, isI_i, isL_l, isR_r, isR_n, isR_q, ct_i, ct_l, ct_r, ct_n, ct_q, tFs, tCs, tKs, tJs, tSs, e_nf, lgs, ↓reduceIte, true_and, and_true, false_and, and_false, or_true, true_or, false_or, or_false, Nat.reduceAdd, Nat.reduceEqDiff, Nat.reduceDiv, Nat.reduceLT, Nat.reduceLeDiff, Nat.zero_add, reduceCtorEq, Bool.false_eq_true, Option.toList_some, Option.toList_none, List.cons_append, List.nil_append, not_true_eq_false, not_false_eq_true, Nat.sub_zero, dsX7_point, jsX7_point, xcX7_point, i10, d0]
          exact hq
        · have d : 1 < w := (lw01 c0 c1').resolve_left d0
          refine e_g2 hG [] 60 ?_
          simp only [e_wp_s, Option.getD_some, Option.isSome_some, Option.isSome_none, xis0, xis1, xis2, xis3, xis4, e_ks, lk_k, lk_c, List.lookup_nil, gt_c, vi_i, k1_n, k1_c, k2_n, k2_c, ar_n, ar_c, pk_n, pk_c, rm_0, rm_1, rm_2, rm_3, rm_4, rm_5, rc_9, rcs, fvs, rf_s, rf_n, isI_i, isL_l, isR_r, isR_n, isR_q, ct_i, ct_l, ct_r, ct_n, ct_q, tFs, tCs, tKs, tJs, tSs, e_nf, lgs, ↓reduceIte, true_and, and_true, false_and, and_false, or_true, true_or, false_or, or_false, Nat.reduceAdd, Nat.reduceEqDiff, Nat.reduceDiv, Nat.reduceLT, Nat.reduceLeDiff, Nat.zero_add, reduceCtorEq, Bool.false_eq_true, Option.toList_some, Option.toList_none, List.cons_append, List.nil_append, not_true_eq_false, not_false_eq_true, Nat.sub_zero, dsX7_point, jsX7_point, xcX7_point, i10, d0, d]
          exact hq
    · rw [if_neg (fun q => c2 q.2)] at hq
      refine e_g2 hG [] 60 ?_
      simp only [e_wp_s, Option.getD_some, Option.isSome_some, Option.isSome_none, xis0, xis1, xis2, xis3, xis4, e_ks, lk_k, lk_c, List.lookup_nil, gt_c, vi_i, k1_n, k1_c, k2_n, k2_c, ar_n, ar_c, pk_n, pk_c, rm_0, rm_1, rm_2, rm_3, rm_4, rm_5, rc_9, rcs, fvs, rf_s, rf_n, isI_i, isL_l, isR_r, isR_n, isR_q, ct_i, ct_l, ct_r, ct_n, ct_q, tFs, tCs, tKs, tJs, tSs, e_nf, lgs, ↓reduceIte, true_and, and_true, false_and, and_false, or_true, true_or, false_or, or_false, Nat.reduceAdd, Nat.reduceEqDiff, Nat.reduceDiv, Nat.reduceLT, Nat.reduceLeDiff, Nat.zero_add, reduceCtorEq, Bool.false_eq_true, Option.toList_some, Option.toList_none, List.cons_append, List.nil_append, not_true_eq_false, not_false_eq_true, Nat.sub_zero, dsX7_point, jsX7_point, xcX7_point, h0, r232, k232, l232, i10, c1, c2, f2, f3, hsz, ↓sp_X7_spot, spt]
      exact hq
