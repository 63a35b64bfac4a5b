/-! the reference: bits -/
def wr7 (A : Nat → Nat) (M : HM) (m p : Nat) (bs : List Bool) : HM := sI (uI M (A 245) (wbl (aI M (A 245)) p bs)) 247 m (nI (p + bs.length))
theorem wr7_0 {A : Nat → Nat} {M : HM} {m p : Nat} (h : mI M 247 m = nI p) : wr7 A M m p [] = M := by
  refine hm_ext rfl rfl ?_ rfl rfl ?_ rfl rfl
  · funext f a
    unfold wr7
    simp only [hmI, hmU]
    by_cases e : f = 247 ∧ a = m
    · rw [if_pos e, e.1, e.2, h]; rfl
    · rw [if_neg e]
  · funext a
    unfold wr7
    simp only [haI, hmU, wbl]
    by_cases e : a = A 245
    · rw [if_pos e, e]
    · rw [if_neg e]
theorem wr7_app {A : Nat → Nat} {M : HM} {m p : Nat} {bs cs : List Bool} : wr7 A (wr7 A M m p bs) m (p + bs.length) cs = wr7 A M m p (bs ++ cs) := by
  unfold wr7
  refine hm_ext rfl rfl ?_ rfl rfl ?_ rfl rfl
  · funext f a
    simp only [hmI, hmU]
    by_cases e : f = 247 ∧ a = m
    · simp [e, Nat.add_assoc]
    · simp [e]
  · funext a
    simp only [haI, hmU]
    by_cases e : a = A 245
    · subst e
      simp only [if_true, wbl_app]
    · simp [e]
theorem wr7_e {A : Nat → Nat} {M : HM} {m p : Nat} {bs : List Bool} : mI (wr7 A M m p bs) 247 m = nI (p + bs.length) ∧ MS A (wr7 A M m p bs) m = MS A M m ∧ aI (wr7 A M m p bs) (A 245) = wbl (aI M (A 245)) p bs := by
  unfold wr7
  refine ⟨?_, ?_, ?_⟩
  · simp only [hmI, and_self, if_true]
  · unfold MS; simp only [hmK, hmN, hmR, hmU]
  · simp only [haI, hmU, if_true]
theorem tI_u (M : HM) (a i : Nat) (v : Int32) : tI M a i v = uI M a (fun j => if j = i then v else aI M a j) := by
  refine hm_ext rfl rfl rfl rfl rfl ?_ rfl rfl
  funext b
  simp only [hmU]
  funext j
  simp only [haI]
  by_cases e : b = a
  · subst e; simp only [true_and, if_true]
  · simp [e]
theorem bm_s : ∀ r, r < 8 → (1 : Int32) <<< (nI (7 - r) &&& 31) = (128 : Int32) >>> (nI r &&& 31) := by decide +kernel
theorem bm_z : ∀ r, r < 8 → (0 : Int32) <<< (nI (7 - r) &&& 31) = 0 := by decide +kernel
def csX7_bit : CS := cs_0
theorem csoX7_bit : ∀ op x na cl sp, csX7_bit op x = some (na, cl, sp) → CallOK 7 0 0 op x na cl sp := cs_0_ok
def sp_X7_bit : SP := fun as M k n Q => match as with
  | [.ref m, .int v] => ∃ A p, ∃ b : Bool, MS A M m ∧ v = (if b then 1 else 0) ∧ mI M 247 m = nI p ∧ p < 2048 ∧ Q none (wr7 A M m p [b]) k n
  | _ => False
theorem okX7_bit : OkX7_bit sp_X7_bit := by
  refine inX7_bit csoX7_bit ?_
  intro as M k n Q hsp
  unfold sp_X7_bit at hsp
  split at hsp
  rotate_left
  · exact hsp.elim
  rename_i m v
  obtain ⟨A, p, b, hM, rfl, hp, hp2, hq⟩ := hsp
  have h0 := hM.1
  obtain ⟨r245, k245, l245⟩ : mR M 245 m = some (A 245) ∧ mK M (A 245) = 9 ∧ mN M (A 245) = 256 := hM.2 245 rfl
  have d8 : nI p / 8 = nI (p / 8) := pk_div (d := 8) (by omega) (by decide) (by decide)
  have r8 : nI p - nI (p / 8) * 8 = nI (p % 8) := by
    have := pk_rem (a := p) (d := 8) (by omega) (by decide) (by decide)
    rw [show nI 8 = 8 from rfl, d8] at this
    exact this
  have s7 : (7 : Int32) - nI (p % 8) = nI (7 - p % 8) := pk_sub (a := 7) (by omega)
  have e1 : (nI (p / 8)).toNatClampNeg = p / 8 := nI_clamp (by omega)
  have e2 : vp_in (nI (p / 8)) 256 := vp_in_nI (by omega) (by decide)
  have z8 : ¬ (8 : Int32) = 0 := by decide
  refine ⟨0, 0, Nat.zero_le _, Nat.zero_le _, Nat.le_of_ble_eq_true rfl, fun G hG => ?_⟩
  have hnm : ¬ m = A 245 := fun e => by rw [← e, h0] at k245; cases k245
  refine e_g2 hG [] 60 ?_
  simp only [e_wp_s, Option.getD_some, Option.isSome_some, Option.isSome_none, xis0, xis1, xis2, xis3, xis4, e_ks, lk_k, lk_c, List.lookup_nil, gt_c, vi_i, k1_n, k1_c, k2_n, k2_c, ar_n, ar_c, pk_n, pk_c, rm_0, rm_1, rm_2, rm_3, rm_4, rm_5, rc_9, rcs, fvs, rf_s, rf_n, isI_i, isL_l, isR_r, isR_n, isR_q, ct_i, ct_l, ct_r, ct_n, ct_q, tFs, tCs, tKs, tJs, tSs, e_nf, lgs, ↓reduceIte, true_and, and_true, false_and, and_false, or_true, true_or, false_or, or_false, Nat.reduceAdd, Nat.reduceEqDiff, Nat.reduceDiv, Nat.reduceLT, Nat.reduceLeDiff, Nat.zero_add, reduceCtorEq, Bool.false_eq_true, Option.toList_some, Option.toList_none, List.cons_append, List.nil_append, not_true_eq_false, not_false_eq_true, Nat.sub_zero, dsX7_bit, h0, r245, k245, l245, hp, d8, r8, s7, e1, e2, z8, hmK, hmN, hmI, hmL, hmR, haI, haL, haR, nI_1]
  have hfin : sI (tI M (A 245) (p / 8) (aI M (A 245) (p / 8) ||| (if b = true then 1 else 0) <<< (nI (7 - p % 8) &&& 31))) 247 m (nI (p + 1)) = wr7 A M m p [b] := by
    rw [tI_u]
    unfold wr7
    have : (fun j => if j = p / 8 then aI M (A 245) (p / 8) ||| (if b = true then 1 else 0) <<< (nI (7 - p % 8) &&& 31) else aI M (A 245) j) = wbl (aI M (A 245)) p [b] := by
      funext j
      show _ = wb1 (aI M (A 245)) p b j
      unfold wb1 bm
      cases b with
      | true =>
        simp only [if_true, true_and]
        by_cases c : j = p / 8
        · rw [if_pos c, if_pos c, c, bm_s _ (by omega)]
        · rw [if_neg c, if_neg c]
      | false =>
        simp only [Bool.false_eq_true, false_and, if_false]
        by_cases c : j = p / 8
        · rw [if_pos c, c, bm_z _ (by omega), Int32.or_zero]
        · rw [if_neg c]
    rw [this]
    rfl
  rw [hfin]
  exact hq
theorem tb_sar (x : Int64) {k i : Nat} (h : k + i < 64) : tb (x >>> ((nI k).toInt64 &&& 63)) i = tb x (k + i) := by
  unfold tb
  rw [wb_c k (by omega), Int64.toBitVec_shiftRight, wb_tb, wb_sm k (by omega), BitVec.sshiftRight_eq', BitVec.getLsbD_sshiftRight, BitVec.toNat_ofNat, Nat.mod_eq_of_lt (by omega), if_pos h, decide_eq_false (show ¬ 64 ≤ i by omega)]
  rfl
theorem b01 (y : Int64) : (y &&& 1).toInt32 = if tb y 0 then 1 else 0 := by
  have h : y &&& 1 = if tb y 0 then 1 else 0 := by
    apply l_ext
    intro i hi
    have : tb (y &&& 1) i = (tb y i && tb 1 i) := by unfold tb; rw [Int64.toBitVec_and, BitVec.getLsbD_and]
    rw [this]
    by_cases c : i = 0
    · subst c
      cases tb y 0 <;> rfl
    · have h1 : tb (1 : Int64) i = false := by
        rw [tb_1 hi]; exact decide_eq_false c
      rw [h1, Bool.and_false]
      split
      · exact h1.symm
      · have : tb (0 : Int64) i = false := by unfold tb; exact BitVec.getLsbD_zero
        exact this.symm
  rw [h]
  split <;> rfl
def csX7_bits : CS := (cs_c 0 130 2 7 sp_X7_bit cs_0)
theorem csoX7_bits : ∀ op x na cl sp, csX7_bits op x = some (na, cl, sp) → CallOK 7 1 21 op x na cl sp := (cs_c_ok (caX7_bits_130 okX7_bit) cs_0_ok)
theorem xcX7_bits : (∀ (Q : QT) (G : GT) (pc : Nat) (L : LV) (a0 a1 : Value) (r : List Value) (M : HM) (k n : Nat), ex_i 7 5 0 false csX7_bits Q G (.invokevirtual 130) pc L (a1 :: a0 :: r) M k n = (e_rm r ∧ e_rc M 7 [a0, a1] ∧ sp_X7_bit [a0, a1] M k n (fun v M' k' n' => G (pc + 3) L (v.toList ++ r) M' k' n'))) := (fun _ _ _ _ _ _ _ _ _ _ => xv0_2 rfl)
def sp_X7_bits : SP := fun as M k n Q => match as with
  | [.ref m, .long v, .int c] => ∃ A p d, MS A M m ∧ c = nI d ∧ d ≤ 64 ∧ mI M 247 m = nI p ∧ p + d ≤ 2048 ∧ Q none (wr7 A M m p (nb v d)) k n
  | _ => False
theorem okX7_bits : OkX7_bits sp_X7_bits := by
  refine inX7_bits csoX7_bits ?_
  intro as M k n Q hsp
  unfold sp_X7_bits at hsp
  split at hsp
  rotate_left
  · exact hsp.elim
  rename_i m v c
  obtain ⟨A, p, d, hM, rfl, hd, hp, hp2, hq⟩ := hsp
  refine ⟨0, 0, Nat.zero_le _, Nat.zero_le _, Nat.le_of_ble_eq_true rfl, fun G hG => ?_⟩
  have loop : ∀ d p M', MS A M' m → d ≤ 64 → mI M' 247 m = nI p → p + d ≤ 2048 → Q none (wr7 A M' m p (nb v d)) k n → G 5 [(0, .ref m), (1, .long v), (4, .int (nI d - 1))] [] M' 0 0 := by
    intro d
    induction d with
    | zero =>
      intro p M' hM' _ hp' hp2' hq'
      have e1 : nI 0 - 1 < 0 := by decide
      refine e_g2 hG [] 60 ?_
      simp only [e_wp_s, Option.getD_some, Option.isSome_some, Option.isSome_none, xis0, xis1, xis2, xis3, xis4, e_ks, lk_k, lk_c, List.lookup_nil, gt_c, vi_i, k1_n, k1_c, k2_n, k2_c, ar_n, ar_c, pk_n, pk_c, rm_0, rm_1, rm_2, rm_3, rm_4, rm_5, rc_9, rcs, fvs, rf_s, rf_n, isI_i, isL_l, isR_r, isR_n, isR_q, ct_i, ct_l, ct_r, ct_n, ct_q, tFs, tCs, tKs, tJs, tSs, e_nf, lgs, ↓reduceIte, true_and, and_true, false_and, and_false, or_true, true_or, false_or, or_false, Nat.reduceAdd, Nat.reduceEqDiff, Nat.reduceDiv, Nat.reduceLT, Nat.reduceLeDiff, Nat.zero_add, reduceCtorEq, Bool.false_eq_true, Option.toList_some, Option.toList_none, List.cons_append, List.nil_append, not_true_eq_false, not_false_eq_true, Nat.sub_zero, dsX7_bits, jsX7_bits, xcX7_bits, e1]
      rw [nb, wr7_0 hp'] at hq'
      exact hq'
    | succ d ih =>
      intro p M' hM' hd' hp' hp2' hq'
      have h0 := hM'.1
      have e0 : nI (d + 1) - 1 = nI d := nI_pred d
      have e1 : ¬ nI d < 0 := nI_pos (by omega)
      have e2 : nI d + -1 = nI d - 1 := nI_m1 d
      rw [e0]
      have hb : (v >>> ((nI d).toInt64 &&& 63) &&& 1).toInt32 = if tb v d then 1 else 0 := by rw [b01, tb_sar v (k := d) (i := 0) (by omega)]; rfl
      refine e_g2 hG [(21, [0, 1, 4])] 60 ?_
      simp only [e_wp_s, Option.getD_some, Option.isSome_some, Option.isSome_none, xis0, xis1, xis2, xis3, xis4, e_ks, lk_k, lk_c, List.lookup_nil, gt_c, vi_i, k1_n, k1_c, k2_n, k2_c, ar_n, ar_c, pk_n, pk_c, rm_0, rm_1, rm_2, rm_3, rm_4, rm_5, rc_9, rcs, fvs, rf_s, rf_n, isI_i, isL_l, isR_r, isR_n, isR_q, ct_i, ct_l, ct_r, ct_n, ct_q, tFs, tCs, tKs, tJs, tSs, e_nf, lgs, ↓reduceIte, true_and, and_true, false_and, and_false, or_true, true_or, false_or, or_false, Nat.reduceAdd, Nat.reduceEqDiff, Nat.reduceDiv, Nat.reduceLT, Nat.reduceLeDiff, Nat.zero_add, reduceCtorEq, Bool.false_eq_true, Option.toList_some, Option.toList_none, List.cons_append, List.nil_append, not_true_eq_false, not_false_eq_true, Nat.sub_zero, dsX7_bits, jsX7_bits, xcX7_bits, h0, e1, hb]
      refine ⟨A, p, tb v d, hM', rfl, hp', by omega, ?_⟩
      refine e_g2 hG [(5, [0, 1, 4])] 60 ?_
      simp only [e_wp_s, Option.getD_some, Option.isSome_some, Option.isSome_none, xis0, xis1, xis2, xis3, xis4, e_ks, lk_k, lk_c, List.lookup_nil, gt_c, vi_i, k1_n, k1_c, k2_n, k2_c, ar_n, ar_c, pk_n, pk_c, rm_0, rm_1, rm_2, rm_3, rm_4, rm_5, rc_9, rcs, fvs, rf_s, rf_n, isI_i, isL_l, isR_r, isR_n, isR_q, ct_i, ct_l, ct_r, ct_n, ct_q, tFs, tCs, tKs, tJs, tSs, e_nf, lgs, ↓reduceIte, true_and, and_true, false_and, and_false, or_true, true_or, false_or, or_false, Nat.reduceAdd, Nat.reduceEqDiff, Nat.reduceDiv, Nat.reduceLT, Nat.reduceLeDiff, Nat.zero_add, reduceCtorEq, Bool.false_eq_true, Option.toList_some, Option.toList_none, List.cons_append, List.nil_append, not_true_eq_false, not_false_eq_true, Nat.sub_zero, dsX7_bits, jsX7_bits, xcX7_bits, e2]
      obtain ⟨w1, w2, w3⟩ := wr7_e (A := A) (M := M') (m := m) (p := p) (bs := [tb v d])
      refine ih (p + 1) _ (by rw [w2]; exact hM') (by omega) w1 (by omega) ?_
      have := wr7_app (A := A) (M := M') (m := m) (p := p) (bs := [tb v d]) (cs := nb v d)
      rw [show p + [tb v d].length = p + 1 from rfl] at this
      rw [this]
      exact hq'
  refine e_g2 hG [(5, [0, 1, 4])] 60 ?_
  simp only [e_wp_s, Option.getD_some, Option.isSome_some, Option.isSome_none, xis0, xis1, xis2, xis3, xis4, e_ks, lk_k, lk_c, List.lookup_nil, gt_c, vi_i, k1_n, k1_c, k2_n, k2_c, ar_n, ar_c, pk_n, pk_c, rm_0, rm_1, rm_2, rm_3, rm_4, rm_5, rc_9, rcs, fvs, rf_s, rf_n, isI_i, isL_l, isR_r, isR_n, isR_q, ct_i, ct_l, ct_r, ct_n, ct_q, tFs, tCs, tKs, tJs, tSs, e_nf, lgs, ↓reduceIte, true_and, and_true, false_and, and_false, or_true, true_or, false_or, or_false, Nat.reduceAdd, Nat.reduceEqDiff, Nat.reduceDiv, Nat.reduceLT, Nat.reduceLeDiff, Nat.zero_add, reduceCtorEq, Bool.false_eq_true, Option.toList_some, Option.toList_none, List.cons_append, List.nil_append, not_true_eq_false, not_false_eq_true, Nat.sub_zero, dsX7_bits, jsX7_bits, xcX7_bits]
  exact loop d p M hM hd hp hp2 hq
def csX7_ones : CS := (cs_c 0 130 2 7 sp_X7_bit cs_0)
theorem csoX7_ones : ∀ op x na cl sp, csX7_ones op x = some (na, cl, sp) → CallOK 7 1 21 op x na cl sp := (cs_c_ok (caX7_ones_130 okX7_bit) cs_0_ok)
theorem xcX7_ones : (∀ (Q : QT) (G : GT) (pc : Nat) (L : LV) (a0 a1 : Value) (r : List Value) (M : HM) (k n : Nat), ex_i 7 3 0 false csX7_ones Q G (.invokevirtual 130) pc L (a1 :: a0 :: r) M k n = (e_rm r ∧ e_rc M 7 [a0, a1] ∧ sp_X7_bit [a0, a1] M k n (fun v M' k' n' => G (pc + 3) L (v.toList ++ r) M' k' n'))) := (fun _ _ _ _ _ _ _ _ _ _ => xv0_2 rfl)
def sp_X7_ones : SP := fun as M k n Q => match as with
  | [.ref m, .int c] => ∃ A p d, MS A M m ∧ c = nI d ∧ d ≤ 64 ∧ mI M 247 m = nI p ∧ p + d ≤ 2048 ∧ Q none (wr7 A M m p (List.replicate d true)) k n
  | _ => False
theorem okX7_ones : OkX7_ones sp_X7_ones := by
  refine inX7_ones csoX7_ones ?_
  intro as M k n Q hsp
  unfold sp_X7_ones at hsp
  split at hsp
  rotate_left
  · exact hsp.elim
  rename_i m c
  obtain ⟨A, p, d, hM, rfl, hd, hp, hp2, hq⟩ := hsp
  refine ⟨0, 0, Nat.zero_le _, Nat.zero_le _, Nat.le_of_ble_eq_true rfl, fun G hG => ?_⟩
  have loop : ∀ e j p M', j + e = d → MS A M' m → mI M' 247 m = nI p → p + e ≤ 2048 → Q none (wr7 A M' m p (List.replicate e true)) k n → G 2 [(0, .ref m), (1, .int (nI d)), (2, .int (nI j))] [] M' 0 0 := by
    intro e
    induction e with
    | zero =>
      intro j p M' hj hM' hp' hp2' hq'
      have e1 : ¬ nI j < nI d := nI_nlt (by omega) (by omega)
      refine e_g2 hG [] 60 ?_
      simp only [e_wp_s, Option.getD_some, Option.isSome_some, Option.isSome_none, xis0, xis1, xis2, xis3, xis4, e_ks, lk_k, lk_c, List.lookup_nil, gt_c, vi_i, k1_n, k1_c, k2_n, k2_c, ar_n, ar_c, pk_n, pk_c, rm_0, rm_1, rm_2, rm_3, rm_4, rm_5, rc_9, rcs, fvs, rf_s, rf_n, isI_i, isL_l, isR_r, isR_n, isR_q, ct_i, ct_l, ct_r, ct_n, ct_q, tFs, tCs, tKs, tJs, tSs, e_nf, lgs, ↓reduceIte, true_and, and_true, false_and, and_false, or_true, true_or, false_or, or_false, Nat.reduceAdd, Nat.reduceEqDiff, Nat.reduceDiv, Nat.reduceLT, Nat.reduceLeDiff, Nat.zero_add, reduceCtorEq, Bool.false_eq_true, Option.toList_some, Option.toList_none, List.cons_append, List.nil_append, not_true_eq_false, not_false_eq_true, Nat.sub_zero, dsX7_ones, jsX7_ones, xcX7_ones, e1]
      rw [List.replicate_zero, wr7_0 hp'] at hq'
      exact hq'
    | succ e ih =>
      intro j p M' hj hM' hp' hp2' hq'
      have h0 := hM'.1
      have e1 : nI j < nI d := nI_lt (by omega) (by omega)
      refine e_g2 hG [(12, [0, 1, 2])] 60 ?_
      simp only [e_wp_s, Option.getD_some, Option.isSome_some, Option.isSome_none, xis0, xis1, xis2, xis3, xis4, e_ks, lk_k, lk_c, List.lookup_nil, gt_c, vi_i, k1_n, k1_c, k2_n, k2_c, ar_n, ar_c, pk_n, pk_c, rm_0, rm_1, rm_2, rm_3, rm_4, rm_5, rc_9, rcs, fvs, rf_s, rf_n, isI_i, isL_l, isR_r, isR_n, isR_q, ct_i, ct_l, ct_r, ct_n, ct_q, tFs, tCs, tKs, tJs, tSs, e_nf, lgs, ↓reduceIte, true_and, and_true, false_and, and_false, or_true, true_or, false_or, or_false, Nat.reduceAdd, Nat.reduceEqDiff, Nat.reduceDiv, Nat.reduceLT, Nat.reduceLeDiff, Nat.zero_add, reduceCtorEq, Bool.false_eq_true, Option.toList_some, Option.toList_none, List.cons_append, List.nil_append, not_true_eq_false, not_false_eq_true, Nat.sub_zero, dsX7_ones, jsX7_ones, xcX7_ones, h0, e1]
      refine ⟨A, p, true, hM', rfl, hp', by omega, ?_⟩
      refine e_g2 hG [(2, [0, 1, 2])] 60 ?_
      simp only [e_wp_s, Option.getD_some, Option.isSome_some, Option.isSome_none, xis0, xis1, xis2, xis3, xis4, e_ks, lk_k, lk_c, List.lookup_nil, gt_c, vi_i, k1_n, k1_c, k2_n, k2_c, ar_n, ar_c, pk_n, pk_c, rm_0, rm_1, rm_2, rm_3, rm_4, rm_5, rc_9, rcs, fvs, rf_s, rf_n, isI_i, isL_l, isR_r, isR_n, isR_q, ct_i, ct_l, ct_r, ct_n, ct_q, tFs, tCs, tKs, tJs, tSs, e_nf, lgs, ↓reduceIte, true_and, and_true, false_and, and_false, or_true, true_or, false_or, or_false, Nat.reduceAdd, Nat.reduceEqDiff, Nat.reduceDiv, Nat.reduceLT, Nat.reduceLeDiff, Nat.zero_add, reduceCtorEq, Bool.false_eq_true, Option.toList_some, Option.toList_none, List.cons_append, List.nil_append, not_true_eq_false, not_false_eq_true, Nat.sub_zero, dsX7_ones, jsX7_ones, xcX7_ones, nI_1]
      obtain ⟨w1, w2, w3⟩ := wr7_e (A := A) (M := M') (m := m) (p := p) (bs := [true])
      refine ih (j + 1) (p + 1) _ (by omega) (by rw [w2]; exact hM') w1 (by omega) ?_
      have := wr7_app (A := A) (M := M') (m := m) (p := p) (bs := [true]) (cs := List.replicate e true)
      rw [show p + [true].length = p + 1 from rfl] at this
      rw [this]
      rw [List.replicate_succ] at hq'
      exact hq'
  refine e_g2 hG [(2, [0, 1, 2])] 60 ?_
  simp only [e_wp_s, Option.getD_some, Option.isSome_some, Option.isSome_none, xis0, xis1, xis2, xis3, xis4, e_ks, lk_k, lk_c, List.lookup_nil, gt_c, vi_i, k1_n, k1_c, k2_n, k2_c, ar_n, ar_c, pk_n, pk_c, rm_0, rm_1, rm_2, rm_3, rm_4, rm_5, rc_9, rcs, fvs, rf_s, rf_n, isI_i, isL_l, isR_r, isR_n, isR_q, ct_i, ct_l, ct_r, ct_n, ct_q, tFs, tCs, tKs, tJs, tSs, e_nf, lgs, ↓reduceIte, true_and, and_true, false_and, and_false, or_true, true_or, false_or, or_false, Nat.reduceAdd, Nat.reduceEqDiff, Nat.reduceDiv, Nat.reduceLT, Nat.reduceLeDiff, Nat.zero_add, reduceCtorEq, Bool.false_eq_true, Option.toList_some, Option.toList_none, List.cons_append, List.nil_append, not_true_eq_false, not_false_eq_true, Nat.sub_zero, dsX7_ones, jsX7_ones, xcX7_ones]
  exact loop d 0 p M (by omega) hM hp hp2 hq
theorem l_lt (x y : Int32) : (x.toInt64 < y.toInt64) = (x < y) := by
  apply propext
  rw [Int64.lt_iff_toInt_lt, Int32.lt_iff_toInt_lt, Int32.toInt_toInt64, Int32.toInt_toInt64]
theorem l_eq (x y : Int32) : (x.toInt64 = y.toInt64) = (x = y) := by
  apply propext
  rw [← Int64.toInt_inj, ← Int32.toInt_inj, Int32.toInt_toInt64, Int32.toInt_toInt64]
theorem nb_low {x y : Int64} : ∀ c, (∀ i, i < c → tb x i = tb y i) → nb x c = nb y c
  | 0, _ => rfl
  | c + 1, h => by rw [nb, nb, h c (by omega), nb_low c (fun i hi => h i (by omega))]
/-- the low bits of a sum of an int -/
theorem tb_i64 (x : Int32) {i : Nat} (hi : i < 32) : tb x.toInt64 i = x.toBitVec.getLsbD i := by
  unfold tb
  rw [show x.toInt64.toBitVec = x.toBitVec.signExtend 64 from rfl, BitVec.getLsbD_signExtend]
  simp [hi]
  omega
theorem add_low (x y : Int32) {c : Nat} (hc : c ≤ 32) : nb (x.toInt64 + y.toInt64) c = nb (x + y).toInt64 c := by
  apply nb_low
  intro i hi
  rw [tb_i64 _ (by omega)]
  unfold tb
  rw [Int64.toBitVec_add, Int32.toBitVec_add]
  have h1 : x.toInt64.toBitVec = x.toBitVec.signExtend 64 := rfl
  have h2 : y.toInt64.toBitVec = y.toBitVec.signExtend 64 := rfl
  rw [h1, h2]
  have key : ((x.toBitVec.signExtend 64 + y.toBitVec.signExtend 64).setWidth 32) = x.toBitVec + y.toBitVec := by
    rw [BitVec.setWidth_add _ _ (by decide)]
    congr 1 <;> (apply BitVec.eq_of_getLsbD_eq; intro j hj; rw [BitVec.getLsbD_setWidth, BitVec.getLsbD_signExtend]; simp [hj]; omega)
  have := congrArg (fun z => z.getLsbD i) key
  simp only [BitVec.getLsbD_setWidth] at this
  rw [← this]
  simp; omega
def csX7_step : CS := (cs_c 0 130 2 7 sp_X7_bit (cs_c 0 146 2 7 sp_X7_ones (cs_c 0 155 3 7 sp_X7_bits cs_0)))
theorem csoX7_step : ∀ op x na cl sp, csX7_step op x = some (na, cl, sp) → CallOK 7 2 45 op x na cl sp := (cs_c_ok (caX7_step_130 okX7_bit) (cs_c_ok (caX7_step_146 okX7_ones) (cs_c_ok (caX7_step_155 okX7_bits) cs_0_ok)))
theorem xcX7_step : (∀ (Q : QT) (G : GT) (pc : Nat) (L : LV) (a0 a1 : Value) (r : List Value) (M : HM) (k n : Nat), ex_i 7 4 0 false csX7_step Q G (.invokevirtual 130) pc L (a1 :: a0 :: r) M k n = (e_rm r ∧ e_rc M 7 [a0, a1] ∧ sp_X7_bit [a0, a1] M k n (fun v M' k' n' => G (pc + 3) L (v.toList ++ r) M' k' n'))) ∧ (∀ (Q : QT) (G : GT) (pc : Nat) (L : LV) (a0 a1 : Value) (r : List Value) (M : HM) (k n : Nat), ex_i 7 4 0 false csX7_step Q G (.invokevirtual 146) pc L (a1 :: a0 :: r) M k n = (e_rm r ∧ e_rc M 7 [a0, a1] ∧ sp_X7_ones [a0, a1] M k n (fun v M' k' n' => G (pc + 3) L (v.toList ++ r) M' k' n'))) ∧ (∀ (Q : QT) (G : GT) (pc : Nat) (L : LV) (a0 a1 a2 : Value) (r : List Value) (M : HM) (k n : Nat), ex_i 7 4 0 false csX7_step Q G (.invokevirtual 155) pc L (a2 :: a1 :: a0 :: r) M k n = (e_rm r ∧ e_rc M 7 [a0, a1, a2] ∧ sp_X7_bits [a0, a1, a2] M k n (fun v M' k' n' => G (pc + 3) L (v.toList ++ r) M' k' n'))) := ⟨(fun _ _ _ _ _ _ _ _ _ _ => xv0_2 rfl), (fun _ _ _ _ _ _ _ _ _ _ => xv0_2 rfl), (fun _ _ _ _ _ _ _ _ _ _ _ => xv0_3 rfl)⟩
def sp_X7_step : SP := fun as M k n Q => match as with
  | [.ref m, .long v] => ∃ A p, ∃ x : Int32, MS A M m ∧ v = x.toInt64 ∧ mI M 247 m = nI p ∧ p + 40 ≤ 2048 ∧ Q none (wr7 A M m p (scb x)) k n
  | _ => False
theorem okX7_step : OkX7_step sp_X7_step := by
  refine inX7_step csoX7_step ?_
  intro as M k n Q hsp
  unfold sp_X7_step at hsp
  split at hsp
  rotate_left
  · exact hsp.elim
  rename_i m v
  obtain ⟨A, p, x, hM, rfl, hp, hp2, hq⟩ := hsp
  have h0 := hM.1
  have c1 : ∀ y : Int32, (x.toInt64 < y.toInt64) = (x < y) := fun y => l_lt x y
  have c2 : ∀ y : Int32, (y.toInt64 < x.toInt64) = (y < x) := fun y => l_lt y x
  have a0 : (x.toInt64 = 0) = (x = 0) := l_eq x 0
  have a1 : (x.toInt64 < -63) = (x < -63) := c1 (-63)
  have a2 : ((64 : Int64) < x.toInt64) = (64 < x) := c2 64
  have a3 : (x.toInt64 < -255) = (x < -255) := c1 (-255)
  have a4 : ((256 : Int64) < x.toInt64) = (256 < x) := c2 256
  have a5 : (x.toInt64 < -2047) = (x < -2047) := c1 (-2047)
  have a6 : ((2048 : Int64) < x.toInt64) = (2048 < x) := c2 2048
  have k1 : ¬ (9 : Int32) = 7 := by decide
  have k2 : ¬ (12 : Int32) = 7 := by decide
  have k3 : ¬ (12 : Int32) = 9 := by decide
  have k4 : ¬ (32 : Int32) = 7 := by decide
  have k5 : ¬ (32 : Int32) = 9 := by decide
  have k6 : ¬ (32 : Int32) = 12 := by decide
  have k7 : (7 : Int32) < 32 := by decide
  have k8 : (9 : Int32) < 32 := by decide
  have k9 : (12 : Int32) < 32 := by decide
  have k0 : ¬ (32 : Int32) < 32 := by decide
  refine ⟨0, 0, Nat.zero_le _, Nat.zero_le _, Nat.le_of_ble_eq_true rfl, fun G hG => ?_⟩
  unfold scb at hq
  have s75 : ¬ x = 0 → ¬ (¬ x < -63 ∧ ¬ 64 < x) → ¬ (¬ x < -255 ∧ ¬ 256 < x) → ¬ (¬ x < -2047 ∧ ¬ 2048 < x) → G 75 [(0, .ref m), (1, .long x.toInt64)] [] M 0 0 := by
    intro b0 b1 b2 b3
    have hf : fof x = 4 := by unfold fof; rw [if_neg b0, if_neg b1, if_neg b2, if_neg b3]
    rw [hf] at hq
    have hl : ([true, true, true, true] : List Bool) = nb (((1 : Int32) <<< (nI 4 &&& 31)) - 1).toInt64 4 ++ (if 4 < 4 then nb 0 1 else []) := by decide
    rw [← hl] at hq
    refine e_g2 hG [(113, [0, 1, 3])] 60 ?_
    simp only [e_wp_s, Option.getD_some, Option.isSome_some, Option.isSome_none, xis0, xis1, xis2, xis3, xis4, e_ks, lk_k, lk_c, List.lookup_nil, gt_c, vi_i, k1_n, k1_c, k2_n, k2_c, ar_n, ar_c, pk_n, pk_c, rm_0, rm_1, rm_2, rm_3, rm_4, rm_5, rc_9, rcs, fvs, rf_s, rf_n, isI_i, isL_l, isR_r, isR_n, isR_q, ct_i, ct_l, ct_r, ct_n, ct_q, tFs, tCs, tKs, tJs, tSs, e_nf, lgs, ↓reduceIte, true_and, and_true, false_and, and_false, or_true, true_or, false_or, or_false, Nat.reduceAdd, Nat.reduceEqDiff, Nat.reduceDiv, Nat.reduceLT, Nat.reduceLeDiff, Nat.zero_add, reduceCtorEq, Bool.false_eq_true, Option.toList_some, Option.toList_none, List.cons_append, List.nil_append, not_true_eq_false, not_false_eq_true, Nat.sub_zero, dsX7_step, jsX7_step, xcX7_step, h0, a0, k1, k2, k3, k4, k5, k6]
    refine ⟨A, p, 4, hM, rfl, by decide, hp, by omega, ?_⟩
    obtain ⟨w1, w2, w3⟩ := wr7_e (A := A) (M := M) (m := m) (p := p) (bs := List.replicate 4 true)
    have hM1 : MS A (wr7 A M m p (List.replicate 4 true)) m := by rw [w2]; exact hM
    have g1 := hM1.1
    have hnb : nb x.toInt64 32 = nb (x + e_sa 1 4).toInt64 (sbits 4) := by rw [show e_sa 1 4 = 0 from rfl, Int32.add_zero]; rfl
    refine e_g2 hG [(172, [])] 60 ?_
    simp only [e_wp_s, Option.getD_some, Option.isSome_some, Option.isSome_none, xis0, xis1, xis2, xis3, xis4, e_ks, lk_k, lk_c, List.lookup_nil, gt_c, vi_i, k1_n, k1_c, k2_n, k2_c, ar_n, ar_c, pk_n, pk_c, rm_0, rm_1, rm_2, rm_3, rm_4, rm_5, rc_9, rcs, fvs, rf_s, rf_n, isI_i, isL_l, isR_r, isR_n, isR_q, ct_i, ct_l, ct_r, ct_n, ct_q, tFs, tCs, tKs, tJs, tSs, e_nf, lgs, ↓reduceIte, true_and, and_true, false_and, and_false, or_true, true_or, false_or, or_false, Nat.reduceAdd, Nat.reduceEqDiff, Nat.reduceDiv, Nat.reduceLT, Nat.reduceLeDiff, Nat.zero_add, reduceCtorEq, Bool.false_eq_true, Option.toList_some, Option.toList_none, List.cons_append, List.nil_append, not_true_eq_false, not_false_eq_true, Nat.sub_zero, dsX7_step, jsX7_step, xcX7_step, g1, k1, k2, k3, k4, k5, k6, k0]
    refine ⟨A, p + 4, 32, hM1, rfl, by decide, w1, by omega, ?_⟩
    have wb := wr7_app (A := A) (M := M) (m := m) (p := p) (bs := List.replicate 4 true) (cs := nb x.toInt64 32)
    rw [show p + (List.replicate 4 true).length = p + 4 from rfl] at wb
    rw [wb, hnb]
    refine e_g2 hG [] 60 ?_
    simp only [e_wp_s, Option.getD_some, Option.isSome_some, Option.isSome_none, xis0, xis1, xis2, xis3, xis4, e_ks, lk_k, lk_c, List.lookup_nil, gt_c, vi_i, k1_n, k1_c, k2_n, k2_c, ar_n, ar_c, pk_n, pk_c, rm_0, rm_1, rm_2, rm_3, rm_4, rm_5, rc_9, rcs, fvs, rf_s, rf_n, isI_i, isL_l, isR_r, isR_n, isR_q, ct_i, ct_l, ct_r, ct_n, ct_q, tFs, tCs, tKs, tJs, tSs, e_nf, lgs, ↓reduceIte, true_and, and_true, false_and, and_false, or_true, true_or, false_or, or_false, Nat.reduceAdd, Nat.reduceEqDiff, Nat.reduceDiv, Nat.reduceLT, Nat.reduceLeDiff, Nat.zero_add, reduceCtorEq, Bool.false_eq_true, Option.toList_some, Option.toList_none, List.cons_append, List.nil_append, not_true_eq_false, not_false_eq_true, Nat.sub_zero, dsX7_step, jsX7_step, xcX7_step]
    exact hq
  have s54 : ¬ x = 0 → ¬ (¬ x < -63 ∧ ¬ 64 < x) → ¬ (¬ x < -255 ∧ ¬ 256 < x) → G 54 [(0, .ref m), (1, .long x.toInt64)] [] M 0 0 := by
    intro b0 b1 b2
    by_cases b3 : ¬ x < -2047 ∧ ¬ 2048 < x
    · have hf : fof x = 3 := by unfold fof; rw [if_neg b0, if_neg b1, if_neg b2, if_pos b3]
      rw [hf] at hq
      have hl : ([true, true, true] ++ [false] : List Bool) = nb (((1 : Int32) <<< (nI 3 &&& 31)) - 1).toInt64 3 ++ (if 3 < 4 then nb 0 1 else []) := by decide
      rw [← hl] at hq
      refine e_g2 hG [(113, [0, 1, 3])] 60 ?_
      simp only [e_wp_s, Option.getD_some, Option.isSome_some, Option.isSome_none, xis0, xis1, xis2, xis3, xis4, e_ks, lk_k, lk_c, List.lookup_nil, gt_c, vi_i, k1_n, k1_c, k2_n, k2_c, ar_n, ar_c, pk_n, pk_c, rm_0, rm_1, rm_2, rm_3, rm_4, rm_5, rc_9, rcs, fvs, rf_s, rf_n, isI_i, isL_l, isR_r, isR_n, isR_q, ct_i, ct_l, ct_r, ct_n, ct_q, tFs, tCs, tKs, tJs, tSs, e_nf, lgs, ↓reduceIte, true_and, and_true, false_and, and_false, or_true, true_or, false_or, or_false, Nat.reduceAdd, Nat.reduceEqDiff, Nat.reduceDiv, Nat.reduceLT, Nat.reduceLeDiff, Nat.zero_add, reduceCtorEq, Bool.false_eq_true, Option.toList_some, Option.toList_none, List.cons_append, List.nil_append, not_true_eq_false, not_false_eq_true, Nat.sub_zero, dsX7_step, jsX7_step, xcX7_step, h0, a0, a5, a6, b3, k1, k2, k3, k4, k5, k6]
      refine ⟨A, p, 3, hM, rfl, by decide, hp, by omega, ?_⟩
      obtain ⟨w1, w2, w3⟩ := wr7_e (A := A) (M := M) (m := m) (p := p) (bs := List.replicate 3 true)
      have hM1 : MS A (wr7 A M m p (List.replicate 3 true)) m := by rw [w2]; exact hM
      have g1 := hM1.1
      refine e_g2 hG [(124, [0, 1, 3])] 60 ?_
      simp only [e_wp_s, Option.getD_some, Option.isSome_some, Option.isSome_none, xis0, xis1, xis2, xis3, xis4, e_ks, lk_k, lk_c, List.lookup_nil, gt_c, vi_i, k1_n, k1_c, k2_n, k2_c, ar_n, ar_c, pk_n, pk_c, rm_0, rm_1, rm_2, rm_3, rm_4, rm_5, rc_9, rcs, fvs, rf_s, rf_n, isI_i, isL_l, isR_r, isR_n, isR_q, ct_i, ct_l, ct_r, ct_n, ct_q, tFs, tCs, tKs, tJs, tSs, e_nf, lgs, ↓reduceIte, true_and, and_true, false_and, and_false, or_true, true_or, false_or, or_false, Nat.reduceAdd, Nat.reduceEqDiff, Nat.reduceDiv, Nat.reduceLT, Nat.reduceLeDiff, Nat.zero_add, reduceCtorEq, Bool.false_eq_true, Option.toList_some, Option.toList_none, List.cons_append, List.nil_append, not_true_eq_false, not_false_eq_true, Nat.sub_zero, dsX7_step, jsX7_step, xcX7_step, g1, k7, k8, k9, k0]
      refine ⟨A, p + 3, false, hM1, rfl, w1, by omega, ?_⟩
      have wa := wr7_app (A := A) (M := M) (m := m) (p := p) (bs := List.replicate 3 true) (cs := [false])
      rw [show p + (List.replicate 3 true).length = p + 3 from rfl] at wa
      rw [wa]
      obtain ⟨v1, v2, v3⟩ := wr7_e (A := A) (M := M) (m := m) (p := p) (bs := List.replicate 3 true ++ [false])
      have hM2 : MS A (wr7 A M m p (List.replicate 3 true ++ [false])) m := by rw [v2]; exact hM
      have g2 := hM2.1
      have hnb : nb (x.toInt64 + 2047) 12 = nb (x + e_sa 1 3).toInt64 (sbits 3) := add_low x 2047 (by decide)
      refine e_g2 hG [(172, [])] 60 ?_
      simp only [e_wp_s, Option.getD_some, Option.isSome_some, Option.isSome_none, xis0, xis1, xis2, xis3, xis4, e_ks, lk_k, lk_c, List.lookup_nil, gt_c, vi_i, k1_n, k1_c, k2_n, k2_c, ar_n, ar_c, pk_n, pk_c, rm_0, rm_1, rm_2, rm_3, rm_4, rm_5, rc_9, rcs, fvs, rf_s, rf_n, isI_i, isL_l, isR_r, isR_n, isR_q, ct_i, ct_l, ct_r, ct_n, ct_q, tFs, tCs, tKs, tJs, tSs, e_nf, lgs, ↓reduceIte, true_and, and_true, false_and, and_false, or_true, true_or, false_or, or_false, Nat.reduceAdd, Nat.reduceEqDiff, Nat.reduceDiv, Nat.reduceLT, Nat.reduceLeDiff, Nat.zero_add, reduceCtorEq, Bool.false_eq_true, Option.toList_some, Option.toList_none, List.cons_append, List.nil_append, not_true_eq_false, not_false_eq_true, Nat.sub_zero, dsX7_step, jsX7_step, xcX7_step, g2, k1, k2, k3, k4, k5, k6]
      refine ⟨A, p + 4, 12, hM2, rfl, by decide, v1, by omega, ?_⟩
      have wb := wr7_app (A := A) (M := M) (m := m) (p := p) (bs := List.replicate 3 true ++ [false]) (cs := nb (x.toInt64 + 2047) 12)
      rw [show p + (List.replicate 3 true ++ [false]).length = p + 4 from rfl] at wb
      rw [wb, hnb]
      refine e_g2 hG [] 60 ?_
      simp only [e_wp_s, Option.getD_some, Option.isSome_some, Option.isSome_none, xis0, xis1, xis2, xis3, xis4, e_ks, lk_k, lk_c, List.lookup_nil, gt_c, vi_i, k1_n, k1_c, k2_n, k2_c, ar_n, ar_c, pk_n, pk_c, rm_0, rm_1, rm_2, rm_3, rm_4, rm_5, rc_9, rcs, fvs, rf_s, rf_n, isI_i, isL_l, isR_r, isR_n, isR_q, ct_i, ct_l, ct_r, ct_n, ct_q, tFs, tCs, tKs, tJs, tSs, e_nf, lgs, ↓reduceIte, true_and, and_true, false_and, and_false, or_true, true_or, false_or, or_false, Nat.reduceAdd, Nat.reduceEqDiff, Nat.reduceDiv, Nat.reduceLT, Nat.reduceLeDiff, Nat.zero_add, reduceCtorEq, Bool.false_eq_true, Option.toList_some, Option.toList_none, List.cons_append, List.nil_append, not_true_eq_false, not_false_eq_true, Nat.sub_zero, dsX7_step, jsX7_step, xcX7_step]
      exact hq
    · by_cases d1 : x < -2047
      · refine e_g2 hG [(75, [0, 1])] 60 ?_
        simp only [e_wp_s, Option.getD_some, Option.isSome_some, Option.isSome_none, xis0, xis1, xis2, xis3, xis4, e_ks, lk_k, lk_c, List.lookup_nil, gt_c, vi_i, k1_n, k1_c, k2_n, k2_c, ar_n, ar_c, pk_n, pk_c, rm_0, rm_1, rm_2, rm_3, rm_4, rm_5, rc_9, rcs, fvs, rf_s, rf_n, isI_i, isL_l, isR_r, isR_n, isR_q, ct_i, ct_l, ct_r, ct_n, ct_q, tFs, tCs, tKs, tJs, tSs, e_nf, lgs, ↓reduceIte, true_and, and_true, false_and, and_false, or_true, true_or, false_or, or_false, Nat.reduceAdd, Nat.reduceEqDiff, Nat.reduceDiv, Nat.reduceLT, Nat.reduceLeDiff, Nat.zero_add, reduceCtorEq, Bool.false_eq_true, Option.toList_some, Option.toList_none, List.cons_append, List.nil_append, not_true_eq_false, not_false_eq_true, Nat.sub_zero, dsX7_step, jsX7_step, xcX7_step, a5, a6, d1]
        exact s75 b0 b1 b2 b3
      · have d2 : 2048 < x := Decidable.byContradiction (fun z => b3 ⟨d1, z⟩)
        refine e_g2 hG [(75, [0, 1])] 60 ?_
        simp only [e_wp_s, Option.getD_some, Option.isSome_some, Option.isSome_none, xis0, xis1, xis2, xis3, xis4, e_ks, lk_k, lk_c, List.lookup_nil, gt_c, vi_i, k1_n, k1_c, k2_n, k2_c, ar_n, ar_c, pk_n, pk_c, rm_0, rm_1, rm_2, rm_3, rm_4, rm_5, rc_9, rcs, fvs, rf_s, rf_n, isI_i, isL_l, isR_r, isR_n, isR_q, ct_i, ct_l, ct_r, ct_n, ct_q, tFs, tCs, tKs, tJs, tSs, e_nf, lgs, ↓reduceIte, true_and, and_true, false_and, and_false, or_true, true_or, false_or, or_false, Nat.reduceAdd, Nat.reduceEqDiff, Nat.reduceDiv, Nat.reduceLT, Nat.reduceLeDiff, Nat.zero_add, reduceCtorEq, Bool.false_eq_true, Option.toList_some, Option.toList_none, List.cons_append, List.nil_append, not_true_eq_false, not_false_eq_true, Nat.sub_zero, dsX7_step, jsX7_step, xcX7_step, a5, a6, d1, d2]
        exact s75 b0 b1 b2 b3
  have s33 : ¬ x = 0 → ¬ (¬ x < -63 ∧ ¬ 64 < x) → G 33 [(0, .ref m), (1, .long x.toInt64)] [] M 0 0 := by
    intro b0 b1
    by_cases b2 : ¬ x < -255 ∧ ¬ 256 < x
    · have hf : fof x = 2 := by unfold fof; rw [if_neg b0, if_neg b1, if_pos b2]
      rw [hf] at hq
      have hl : ([true, true] ++ [false] : List Bool) = nb (((1 : Int32) <<< (nI 2 &&& 31)) - 1).toInt64 2 ++ (if 2 < 4 then nb 0 1 else []) := by decide
      rw [← hl] at hq
      refine e_g2 hG [(113, [0, 1, 3])] 60 ?_
      simp only [e_wp_s, Option.getD_some, Option.isSome_some, Option.isSome_none, xis0, xis1, xis2, xis3, xis4, e_ks, lk_k, lk_c, List.lookup_nil, gt_c, vi_i, k1_n, k1_c, k2_n, k2_c, ar_n, ar_c, pk_n, pk_c, rm_0, rm_1, rm_2, rm_3, rm_4, rm_5, rc_9, rcs, fvs, rf_s, rf_n, isI_i, isL_l, isR_r, isR_n, isR_q, ct_i, ct_l, ct_r, ct_n, ct_q, tFs, tCs, tKs, tJs, tSs, e_nf, lgs, ↓reduceIte, true_and, and_true, false_and, and_false, or_true, true_or, false_or, or_false, Nat.reduceAdd, Nat.reduceEqDiff, Nat.reduceDiv, Nat.reduceLT, Nat.reduceLeDiff, Nat.zero_add, reduceCtorEq, Bool.false_eq_true, Option.toList_some, Option.toList_none, List.cons_append, List.nil_append, not_true_eq_false, not_false_eq_true, Nat.sub_zero, dsX7_step, jsX7_step, xcX7_step, h0, a0, a3, a4, b2, k1, k2, k3, k4, k5, k6]
      refine ⟨A, p, 2, hM, rfl, by decide, hp, by omega, ?_⟩
      obtain ⟨w1, w2, w3⟩ := wr7_e (A := A) (M := M) (m := m) (p := p) (bs := List.replicate 2 true)
      have hM1 : MS A (wr7 A M m p (List.replicate 2 true)) m := by rw [w2]; exact hM
      have g1 := hM1.1
      refine e_g2 hG [(124, [0, 1, 3])] 60 ?_
      simp only [e_wp_s, Option.getD_some, Option.isSome_some, Option.isSome_none, xis0, xis1, xis2, xis3, xis4, e_ks, lk_k, lk_c, List.lookup_nil, gt_c, vi_i, k1_n, k1_c, k2_n, k2_c, ar_n, ar_c, pk_n, pk_c, rm_0, rm_1, rm_2, rm_3, rm_4, rm_5, rc_9, rcs, fvs, rf_s, rf_n, isI_i, isL_l, isR_r, isR_n, isR_q, ct_i, ct_l, ct_r, ct_n, ct_q, tFs, tCs, tKs, tJs, tSs, e_nf, lgs, ↓reduceIte, true_and, and_true, false_and, and_false, or_true, true_or, false_or, or_false, Nat.reduceAdd, Nat.reduceEqDiff, Nat.reduceDiv, Nat.reduceLT, Nat.reduceLeDiff, Nat.zero_add, reduceCtorEq, Bool.false_eq_true, Option.toList_some, Option.toList_none, List.cons_append, List.nil_append, not_true_eq_false, not_false_eq_true, Nat.sub_zero, dsX7_step, jsX7_step, xcX7_step, g1, k7, k8, k9, k0]
      refine ⟨A, p + 2, false, hM1, rfl, w1, by omega, ?_⟩
      have wa := wr7_app (A := A) (M := M) (m := m) (p := p) (bs := List.replicate 2 true) (cs := [false])
      rw [show p + (List.replicate 2 true).length = p + 2 from rfl] at wa
      rw [wa]
      obtain ⟨v1, v2, v3⟩ := wr7_e (A := A) (M := M) (m := m) (p := p) (bs := List.replicate 2 true ++ [false])
      have hM2 : MS A (wr7 A M m p (List.replicate 2 true ++ [false])) m := by rw [v2]; exact hM
      have g2 := hM2.1
      have hnb : nb (x.toInt64 + 255) 9 = nb (x + e_sa 1 2).toInt64 (sbits 2) := add_low x 255 (by decide)
      refine e_g2 hG [(172, [])] 60 ?_
      simp only [e_wp_s, Option.getD_some, Option.isSome_some, Option.isSome_none, xis0, xis1, xis2, xis3, xis4, e_ks, lk_k, lk_c, List.lookup_nil, gt_c, vi_i, k1_n, k1_c, k2_n, k2_c, ar_n, ar_c, pk_n, pk_c, rm_0, rm_1, rm_2, rm_3, rm_4, rm_5, rc_9, rcs, fvs, rf_s, rf_n, isI_i, isL_l, isR_r, isR_n, isR_q, ct_i, ct_l, ct_r, ct_n, ct_q, tFs, tCs, tKs, tJs, tSs, e_nf, lgs, ↓reduceIte, true_and, and_true, false_and, and_false, or_true, true_or, false_or, or_false, Nat.reduceAdd, Nat.reduceEqDiff, Nat.reduceDiv, Nat.reduceLT, Nat.reduceLeDiff, Nat.zero_add, reduceCtorEq, Bool.false_eq_true, Option.toList_some, Option.toList_none, List.cons_append, List.nil_append, not_true_eq_false, not_false_eq_true, Nat.sub_zero, dsX7_step, jsX7_step, xcX7_step, g2, k1, k2, k3, k4, k5, k6]
      refine ⟨A, p + 3, 9, hM2, rfl, by decide, v1, by omega, ?_⟩
      have wb := wr7_app (A := A) (M := M) (m := m) (p := p) (bs := List.replicate 2 true ++ [false]) (cs := nb (x.toInt64 + 255) 9)
      rw [show p + (List.replicate 2 true ++ [false]).length = p + 3 from rfl] at wb
      rw [wb, hnb]
      refine e_g2 hG [] 60 ?_
      simp only [e_wp_s, Option.getD_some, Option.isSome_some, Option.isSome_none, xis0, xis1, xis2, xis3, xis4, e_ks, lk_k, lk_c, List.lookup_nil, gt_c, vi_i, k1_n, k1_c, k2_n, k2_c, ar_n, ar_c, pk_n, pk_c, rm_0, rm_1, rm_2, rm_3, rm_4, rm_5, rc_9, rcs, fvs, rf_s, rf_n, isI_i, isL_l, isR_r, isR_n, isR_q, ct_i, ct_l, ct_r, ct_n, ct_q, tFs, tCs, tKs, tJs, tSs, e_nf, lgs, ↓reduceIte, true_and, and_true, false_and, and_false, or_true, true_or, false_or, or_false, Nat.reduceAdd, Nat.reduceEqDiff, Nat.reduceDiv, Nat.reduceLT, Nat.reduceLeDiff, Nat.zero_add, reduceCtorEq, Bool.false_eq_true, Option.toList_some, Option.toList_none, List.cons_append, List.nil_append, not_true_eq_false, not_false_eq_true, Nat.sub_zero, dsX7_step, jsX7_step, xcX7_step]
      exact hq
    · by_cases d1 : x < -255
      · refine e_g2 hG [(54, [0, 1])] 60 ?_
        simp only [e_wp_s, Option.getD_some, Option.isSome_some, Option.isSome_none, xis0, xis1, xis2, xis3, xis4, e_ks, lk_k, lk_c, List.lookup_nil, gt_c, vi_i, k1_n, k1_c, k2_n, k2_c, ar_n, ar_c, pk_n, pk_c, rm_0, rm_1, rm_2, rm_3, rm_4, rm_5, rc_9, rcs, fvs, rf_s, rf_n, isI_i, isL_l, isR_r, isR_n, isR_q, ct_i, ct_l, ct_r, ct_n, ct_q, tFs, tCs, tKs, tJs, tSs, e_nf, lgs, ↓reduceIte, true_and, and_true, false_and, and_false, or_true, true_or, false_or, or_false, Nat.reduceAdd, Nat.reduceEqDiff, Nat.reduceDiv, Nat.reduceLT, Nat.reduceLeDiff, Nat.zero_add, reduceCtorEq, Bool.false_eq_true, Option.toList_some, Option.toList_none, List.cons_append, List.nil_append, not_true_eq_false, not_false_eq_true, Nat.sub_zero, dsX7_step, jsX7_step, xcX7_step, a3, a4, d1]
        exact s54 b0 b1 b2
      · have d2 : 256 < x := Decidable.byContradiction (fun z => b2 ⟨d1, z⟩)
        refine e_g2 hG [(54, [0, 1])] 60 ?_
        simp only [e_wp_s, Option.getD_some, Option.isSome_some, Option.isSome_none, xis0, xis1, xis2, xis3, xis4, e_ks, lk_k, lk_c, List.lookup_nil, gt_c, vi_i, k1_n, k1_c, k2_n, k2_c, ar_n, ar_c, pk_n, pk_c, rm_0, rm_1, rm_2, rm_3, rm_4, rm_5, rc_9, rcs, fvs, rf_s, rf_n, isI_i, isL_l, isR_r, isR_n, isR_q, ct_i, ct_l, ct_r, ct_n, ct_q, tFs, tCs, tKs, tJs, tSs, e_nf, lgs, ↓reduceIte, true_and, and_true, false_and, and_false, or_true, true_or, false_or, or_false, Nat.reduceAdd, Nat.reduceEqDiff, Nat.reduceDiv, Nat.reduceLT, Nat.reduceLeDiff, Nat.zero_add, reduceCtorEq, Bool.false_eq_true, Option.toList_some, Option.toList_none, List.cons_append, List.nil_append, not_true_eq_false, not_false_eq_true, Nat.sub_zero, dsX7_step, jsX7_step, xcX7_step, a3, a4, d1, d2]
        exact s54 b0 b1 b2
  by_cases b0 : x = 0
  · subst b0
    have hs : scb 0 = [false] := by decide
    unfold scb at hs
    rw [hs] at hq
    refine e_g2 hG [(11, [])] 60 ?_
    simp only [e_wp_s, Option.getD_some, Option.isSome_some, Option.isSome_none, xis0, xis1, xis2, xis3, xis4, e_ks, lk_k, lk_c, List.lookup_nil, gt_c, vi_i, k1_n, k1_c, k2_n, k2_c, ar_n, ar_c, pk_n, pk_c, rm_0, rm_1, rm_2, rm_3, rm_4, rm_5, rc_9, rcs, fvs, rf_s, rf_n, isI_i, isL_l, isR_r, isR_n, isR_q, ct_i, ct_l, ct_r, ct_n, ct_q, tFs, tCs, tKs, tJs, tSs, e_nf, lgs, ↓reduceIte, true_and, and_true, false_and, and_false, or_true, true_or, false_or, or_false, Nat.reduceAdd, Nat.reduceEqDiff, Nat.reduceDiv, Nat.reduceLT, Nat.reduceLeDiff, Nat.zero_add, reduceCtorEq, Bool.false_eq_true, Option.toList_some, Option.toList_none, List.cons_append, List.nil_append, not_true_eq_false, not_false_eq_true, Nat.sub_zero, dsX7_step, jsX7_step, xcX7_step, h0, a0]
    refine ⟨A, p, false, hM, rfl, hp, by omega, ?_⟩
    refine e_g2 hG [] 60 ?_
    simp only [e_wp_s, Option.getD_some, Option.isSome_some, Option.isSome_none, xis0, xis1, xis2, xis3, xis4, e_ks, lk_k, lk_c, List.lookup_nil, gt_c, vi_i, k1_n, k1_c, k2_n, k2_c, ar_n, ar_c, pk_n, pk_c, rm_0, rm_1, rm_2, rm_3, rm_4, rm_5, rc_9, rcs, fvs, rf_s, rf_n, isI_i, isL_l, isR_r, isR_n, isR_q, ct_i, ct_l, ct_r, ct_n, ct_q, tFs, tCs, tKs, tJs, tSs, e_nf, lgs, ↓reduceIte, true_and, and_true, false_and, and_false, or_true, true_or, false_or, or_false, Nat.reduceAdd, Nat.reduceEqDiff, Nat.reduceDiv, Nat.reduceLT, Nat.reduceLeDiff, Nat.zero_add, reduceCtorEq, Bool.false_eq_true, Option.toList_some, Option.toList_none, List.cons_append, List.nil_append, not_true_eq_false, not_false_eq_true, Nat.sub_zero, dsX7_step, jsX7_step, xcX7_step]
    exact hq
  by_cases b1 : ¬ x < -63 ∧ ¬ 64 < x
  · have hf : fof x = 1 := by unfold fof; rw [if_neg b0, if_pos b1]
    rw [hf] at hq
    have hl : ([true] ++ [false] : List Bool) = nb (((1 : Int32) <<< (nI 1 &&& 31)) - 1).toInt64 1 ++ (if 1 < 4 then nb 0 1 else []) := by decide
    rw [← hl] at hq
    refine e_g2 hG [(113, [0, 1, 3])] 60 ?_
    simp only [e_wp_s, Option.getD_some, Option.isSome_some, Option.isSome_none, xis0, xis1, xis2, xis3, xis4, e_ks, lk_k, lk_c, List.lookup_nil, gt_c, vi_i, k1_n, k1_c, k2_n, k2_c, ar_n, ar_c, pk_n, pk_c, rm_0, rm_1, rm_2, rm_3, rm_4, rm_5, rc_9, rcs, fvs, rf_s, rf_n, isI_i, isL_l, isR_r, isR_n, isR_q, ct_i, ct_l, ct_r, ct_n, ct_q, tFs, tCs, tKs, tJs, tSs, e_nf, lgs, ↓reduceIte, true_and, and_true, false_and, and_false, or_true, true_or, false_or, or_false, Nat.reduceAdd, Nat.reduceEqDiff, Nat.reduceDiv, Nat.reduceLT, Nat.reduceLeDiff, Nat.zero_add, reduceCtorEq, Bool.false_eq_true, Option.toList_some, Option.toList_none, List.cons_append, List.nil_append, not_true_eq_false, not_false_eq_true, Nat.sub_zero, dsX7_step, jsX7_step, xcX7_step, h0, a0, b0, a1, a2, b1, k1, k2, k3, k4, k5, k6]
    refine ⟨A, p, 1, hM, rfl, by decide, hp, by omega, ?_⟩
    obtain ⟨w1, w2, w3⟩ := wr7_e (A := A) (M := M) (m := m) (p := p) (bs := List.replicate 1 true)
    have hM1 : MS A (wr7 A M m p (List.replicate 1 true)) m := by rw [w2]; exact hM
    have g1 := hM1.1
    refine e_g2 hG [(124, [0, 1, 3])] 60 ?_
    simp only [e_wp_s, Option.getD_some, Option.isSome_some, Option.isSome_none, xis0, xis1, xis2, xis3, xis4, e_ks, lk_k, lk_c, List.lookup_nil, gt_c, vi_i, k1_n, k1_c, k2_n, k2_c, ar_n, ar_c, pk_n, pk_c, rm_0, rm_1, rm_2, rm_3, rm_4, rm_5, rc_9, rcs, fvs, rf_s, rf_n, isI_i, isL_l, isR_r, isR_n, isR_q, ct_i, ct_l, ct_r, ct_n, ct_q, tFs, tCs, tKs, tJs, tSs, e_nf, lgs, ↓reduceIte, true_and, and_true, false_and, and_false, or_true, true_or, false_or, or_false, Nat.reduceAdd, Nat.reduceEqDiff, Nat.reduceDiv, Nat.reduceLT, Nat.reduceLeDiff, Nat.zero_add, reduceCtorEq, Bool.false_eq_true, Option.toList_some, Option.toList_none, List.cons_append, List.nil_append, not_true_eq_false, not_false_eq_true, Nat.sub_zero, dsX7_step, jsX7_step, xcX7_step, g1, k7, k8, k9, k0]
    refine ⟨A, p + 1, false, hM1, rfl, w1, by omega, ?_⟩
    have wa := wr7_app (A := A) (M := M) (m := m) (p := p) (bs := List.replicate 1 true) (cs := [false])
    rw [show p + (List.replicate 1 true).length = p + 1 from rfl] at wa
    rw [wa]
    obtain ⟨v1, v2, v3⟩ := wr7_e (A := A) (M := M) (m := m) (p := p) (bs := List.replicate 1 true ++ [false])
    have hM2 : MS A (wr7 A M m p (List.replicate 1 true ++ [false])) m := by rw [v2]; exact hM
    have g2 := hM2.1
    have hnb : nb (x.toInt64 + 63) 7 = nb (x + e_sa 1 1).toInt64 (sbits 1) := add_low x 63 (by decide)
    refine e_g2 hG [(172, [])] 60 ?_
    simp only [e_wp_s, Option.getD_some, Option.isSome_some, Option.isSome_none, xis0, xis1, xis2, xis3, xis4, e_ks, lk_k, lk_c, List.lookup_nil, gt_c, vi_i, k1_n, k1_c, k2_n, k2_c, ar_n, ar_c, pk_n, pk_c, rm_0, rm_1, rm_2, rm_3, rm_4, rm_5, rc_9, rcs, fvs, rf_s, rf_n, isI_i, isL_l, isR_r, isR_n, isR_q, ct_i, ct_l, ct_r, ct_n, ct_q, tFs, tCs, tKs, tJs, tSs, e_nf, lgs, ↓reduceIte, true_and, and_true, false_and, and_false, or_true, true_or, false_or, or_false, Nat.reduceAdd, Nat.reduceEqDiff, Nat.reduceDiv, Nat.reduceLT, Nat.reduceLeDiff, Nat.zero_add, reduceCtorEq, Bool.false_eq_true, Option.toList_some, Option.toList_none, List.cons_append, List.nil_append, not_true_eq_false, not_false_eq_true, Nat.sub_zero, dsX7_step, jsX7_step, xcX7_step, g2, k1, k2, k3, k4, k5, k6]
    refine ⟨A, p + 2, 7, hM2, rfl, by decide, v1, by omega, ?_⟩
    have wb := wr7_app (A := A) (M := M) (m := m) (p := p) (bs := List.replicate 1 true ++ [false]) (cs := nb (x.toInt64 + 63) 7)
    rw [show p + (List.replicate 1 true ++ [false]).length = p + 2 from rfl] at wb
    rw [wb, hnb]
    refine e_g2 hG [] 60 ?_
    simp only [e_wp_s, Option.getD_some, Option.isSome_some, Option.isSome_none, xis0, xis1, xis2, xis3, xis4, e_ks, lk_k, lk_c, List.lookup_nil, gt_c, vi_i, k1_n, k1_c, k2_n, k2_c, ar_n, ar_c, pk_n, pk_c, rm_0, rm_1, rm_2, rm_3, rm_4, rm_5, rc_9, rcs, fvs, rf_s, rf_n, isI_i, isL_l, isR_r, isR_n, isR_q, ct_i, ct_l, ct_r, ct_n, ct_q, tFs, tCs, tKs, tJs, tSs, e_nf, lgs, ↓reduceIte, true_and, and_true, false_and, and_false, or_true, true_or, false_or, or_false, Nat.reduceAdd, Nat.reduceEqDiff, Nat.reduceDiv, Nat.reduceLT, Nat.reduceLeDiff, Nat.zero_add, reduceCtorEq, Bool.false_eq_true, Option.toList_some, Option.toList_none, List.cons_append, List.nil_append, not_true_eq_false, not_false_eq_true, Nat.sub_zero, dsX7_step, jsX7_step, xcX7_step]
    exact hq
  · by_cases d1 : x < -63
    · refine e_g2 hG [(33, [0, 1])] 60 ?_
      simp only [e_wp_s, Option.getD_some, Option.isSome_some, Option.isSome_none, xis0, xis1, xis2, xis3, xis4, e_ks, lk_k, lk_c, List.lookup_nil, gt_c, vi_i, k1_n, k1_c, k2_n, k2_c, ar_n, ar_c, pk_n, pk_c, rm_0, rm_1, rm_2, rm_3, rm_4, rm_5, rc_9, rcs, fvs, rf_s, rf_n, isI_i, isL_l, isR_r, isR_n, isR_q, ct_i, ct_l, ct_r, ct_n, ct_q, tFs, tCs, tKs, tJs, tSs, e_nf, lgs, ↓reduceIte, true_and, and_true, false_and, and_false, or_true, true_or, false_or, or_false, Nat.reduceAdd, Nat.reduceEqDiff, Nat.reduceDiv, Nat.reduceLT, Nat.reduceLeDiff, Nat.zero_add, reduceCtorEq, Bool.false_eq_true, Option.toList_some, Option.toList_none, List.cons_append, List.nil_append, not_true_eq_false, not_false_eq_true, Nat.sub_zero, dsX7_step, jsX7_step, xcX7_step, a0, b0, a1, a2, d1]
      exact s33 b0 b1
    · have d2 : 64 < x := Decidable.byContradiction (fun z => b1 ⟨d1, z⟩)
      refine e_g2 hG [(33, [0, 1])] 60 ?_
      simp only [e_wp_s, Option.getD_some, Option.isSome_some, Option.isSome_none, xis0, xis1, xis2, xis3, xis4, e_ks, lk_k, lk_c, List.lookup_nil, gt_c, vi_i, k1_n, k1_c, k2_n, k2_c, ar_n, ar_c, pk_n, pk_c, rm_0, rm_1, rm_2, rm_3, rm_4, rm_5, rc_9, rcs, fvs, rf_s, rf_n, isI_i, isL_l, isR_r, isR_n, isR_q, ct_i, ct_l, ct_r, ct_n, ct_q, tFs, tCs, tKs, tJs, tSs, e_nf, lgs, ↓reduceIte, true_and, and_true, false_and, and_false, or_true, true_or, false_or, or_false, Nat.reduceAdd, Nat.reduceEqDiff, Nat.reduceDiv, Nat.reduceLT, Nat.reduceLeDiff, Nat.zero_add, reduceCtorEq, Bool.false_eq_true, Option.toList_some, Option.toList_none, List.cons_append, List.nil_append, not_true_eq_false, not_false_eq_true, Nat.sub_zero, dsX7_step, jsX7_step, xcX7_step, a0, b0, a1, a2, d1, d2]
      exact s33 b0 b1
