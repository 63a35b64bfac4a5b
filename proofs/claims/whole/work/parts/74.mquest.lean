/-! the reference: questions -/
theorem MRp.zst {A : Nat → Nat} {O : GH} {M U : HM} {m : Nat} {L : List SER} {z z' : Nat × Nat × Nat} (h : MRp A O M m L z) (hC : MC O A m [248, 249, 250, 251, 252, 253] M U) (h1 : mI U 248 m = nI z'.1) (h2 : mI U 249 m = nI z'.2.1) (h3 : mI U 250 m = nI z'.2.2) : MRp A O U m L z' := by
  obtain ⟨g1, g2, ⟨g3, g3'⟩, g4, g5, -⟩ := h
  refine ⟨hC.ms g1, g2, ⟨by rw [hC.2.2.2.2.2 224 (by decide)]; exact g3, g3'⟩, fun s S hS => ?_, fun s hs hs8 => ?_, h1, h2, h3⟩
  · obtain ⟨y1, y2, y3, y4, y5⟩ := g4 s S hS
    exact ⟨hC.mH (by decide) y1, hC.mP (by decide) y2, hC.mB (by decide) y3, hC.mT (by decide) y4, hC.mSp (fun f h1 h2 => by intro hf; simp at hf; omega) (by decide) y5⟩
  · rw [(hC.2.2.2.2.1 226 rfl (by decide)).1, (hC.2.2.2.2.1 227 rfl (by decide)).1, (hC.2.2.2.2.1 228 rfl (by decide)).1, (hC.2.2.2.2.1 229 rfl (by decide)).1, (hC.2.2.2.2.1 230 rfl (by decide)).1]
    exact g5 s hs hs8
theorem MC.l6 {O : GH} {A : Nat → Nat} {m : Nat} {M U : HM} (h : MC O A m [248, 249, 250] M U) : MC O A m [248, 249, 250, 251, 252, 253] M U := h.mono (fun f hf => by revert hf; revert f; decide)
theorem MC.a6 {O : GH} {A : Nat → Nat} {m : Nat} {M U : HM} (h : MC O A m [251, 252, 253] M U) : MC O A m [248, 249, 250, 251, 252, 253] M U := h.mono (fun f hf => by revert hf; revert f; decide)
theorem clr_C {O : GH} {A : Nat → Nat} {m : Nat} {M : HM} (hO : GO O A m) : MC O A m [248, 249, 250] M (clrM M m) ∧ mI (clrM M m) 248 m = nI 0 ∧ mI (clrM M m) 249 m = nI 0 ∧ mI (clrM M m) 250 m = nI 0 := by
  unfold clrM
  refine ⟨MC.sI (MC.sI (MC.sI MC.rf hO (by decide)) hO (by decide)) hO (by decide), ?_, ?_, ?_⟩
  · simp only [hmI, Nat.reduceEqDiff, false_and, and_self, if_false, if_true]; rfl
  · simp only [hmI, Nat.reduceEqDiff, false_and, and_self, if_false, if_true]; rfl
  · simp only [hmI, and_self, if_true]; rfl
theorem MSer.q {A : Nat → Nat} {O : GH} {m s : Nat} {M U : HM} {S : SER} (h : MSer A M s S) (hC : MC O A m [248, 249, 250, 251, 252, 253] M U) : MSer A U s S := ⟨hC.mH (by decide) h.1, hC.mP (by decide) h.2.1, hC.mB (by decide) h.2.2.1, hC.mT (by decide) h.2.2.2.1, hC.mSp (fun f h1 h2 => by intro hf; simp at hf; omega) (by decide) h.2.2.2.2⟩
def mLk (h : Nat) (S : SER) (a b : Int32) : Nat × Nat × Nat := (szs (lkf h a b S.2.2.2.2) S.2.2.2.1, (if h = 0 then cnt (cuSp a b) S.2.2.1 else 0), cnt (trn a b) S.2.2.2.1)
def tkl (S : SER) : List PT := takA S.2.2.2.2 (mpts (unt S.2.2.2.1))
def rsw (a b : Int32) : PT → List PT → Int64
  | _, [] => 0
  | p, q :: l => (if ¬ p.1 < a ∧ q.1 < b then (if q.2 < p.2 then q.2 else q.2 - p.2) else 0) + rsw a b q l
def rsW (a b : Int32) : List PT → Int64
  | [] => 0
  | p :: l => rsw a b p l
def lvE (b : Int32) : List PT → Int32
  | [] => b
  | q :: _ => if q.1 < b then q.1 else b
def lvT (v : Int64) (a : Int32) (p : PT) (e : Int32) : Int64 := if p.2 = v ∧ (if a < p.1 then p.1 else a) < e then (e - (if a < p.1 then p.1 else a)).toInt64 else 0
def lvW (v : Int64) (a b : Int32) : List PT → Int64
  | [] => 0
  | p :: l => lvT v a p (lvE b l) + lvW v a b l
def vlW (a b ms : Int32) : List PT → Int64 → Int64
  | [], is => is
  | p :: l, is => vlW a b ms l (if (¬ p.1 < a ∧ p.1 < b) ∧ (¬ ms = 0 ∨ is = NOv) then p.2 else is)
def mCount (L : List SER) (z : Nat × Nat × Nat) (i a b : Int32) : Int32 × Nat × Nat × Nat := match ser L i with
  | none => (-1, z)
  | some S => if ¬ a < 0 ∧ a < b then (nI (askM S a b q0).1, mLk 0 S a b) else (-2, z)
def csX7_count : CS := (cs_c 0 103 2 7 sp_X7_isSeries (cs_c 0 229 3 7 sp_X7_isWindow (cs_c 0 232 1 7 sp_X7_clear (cs_c 0 235 5 7 sp_X7_look (cs_c 0 239 4 7 sp_X7_counted cs_0)))))
theorem csoX7_count : ∀ op x na cl sp, csX7_count op x = some (na, cl, sp) → CallOK 7 5 120 op x na cl sp := (cs_c_ok (caX7_count_103 okX7_isSeries) (cs_c_ok (caX7_count_229 okX7_isWindow) (cs_c_ok (caX7_count_232 okX7_clear) (cs_c_ok (caX7_count_235 okX7_look) (cs_c_ok (caX7_count_239 okX7_counted) cs_0_ok)))))
theorem xcX7_count : (∀ (Q : QT) (G : GT) (pc : Nat) (L : LV) (a0 a1 : Value) (r : List Value) (M : HM) (k n : Nat), ex_i 7 4 1 false csX7_count Q G (.invokevirtual 103) pc L (a1 :: a0 :: r) M k n = (e_rm r ∧ e_rc M 7 [a0, a1] ∧ sp_X7_isSeries [a0, a1] M k n (fun v M' k' n' => G (pc + 3) L (v.toList ++ r) M' k' n'))) ∧ (∀ (Q : QT) (G : GT) (pc : Nat) (L : LV) (a0 a1 a2 : Value) (r : List Value) (M : HM) (k n : Nat), ex_i 7 4 1 false csX7_count Q G (.invokevirtual 229) pc L (a2 :: a1 :: a0 :: r) M k n = (e_rm r ∧ e_rc M 7 [a0, a1, a2] ∧ sp_X7_isWindow [a0, a1, a2] M k n (fun v M' k' n' => G (pc + 3) L (v.toList ++ r) M' k' n'))) ∧ (∀ (Q : QT) (G : GT) (pc : Nat) (L : LV) (a0 : Value) (r : List Value) (M : HM) (k n : Nat), ex_i 7 4 1 false csX7_count Q G (.invokevirtual 232) pc L (a0 :: r) M k n = (e_rm r ∧ e_rc M 7 [a0] ∧ sp_X7_clear [a0] M k n (fun v M' k' n' => G (pc + 3) L (v.toList ++ r) M' k' n'))) ∧ (∀ (Q : QT) (G : GT) (pc : Nat) (L : LV) (a0 a1 a2 a3 a4 : Value) (r : List Value) (M : HM) (k n : Nat), ex_i 7 4 1 false csX7_count Q G (.invokevirtual 235) pc L (a4 :: a3 :: a2 :: a1 :: a0 :: r) M k n = (e_rm r ∧ e_rc M 7 [a0, a1, a2, a3, a4] ∧ sp_X7_look [a0, a1, a2, a3, a4] M k n (fun v M' k' n' => G (pc + 3) L (v.toList ++ r) M' k' n'))) ∧ (∀ (Q : QT) (G : GT) (pc : Nat) (L : LV) (a0 a1 a2 a3 : Value) (r : List Value) (M : HM) (k n : Nat), ex_i 7 4 1 false csX7_count Q G (.invokevirtual 239) pc L (a3 :: a2 :: a1 :: a0 :: r) M k n = (e_rm r ∧ e_rc M 7 [a0, a1, a2, a3] ∧ sp_X7_counted [a0, a1, a2, a3] M k n (fun v M' k' n' => G (pc + 3) L (v.toList ++ r) M' k' n'))) := ⟨(fun _ _ _ _ _ _ _ _ _ _ => xv0_2 rfl), (fun _ _ _ _ _ _ _ _ _ _ _ => xv0_3 rfl), (fun _ _ _ _ _ _ _ _ _ => xv0_1 rfl), (fun _ _ _ _ _ _ _ _ _ _ _ _ _ => xv0_5 rfl), (fun _ _ _ _ _ _ _ _ _ _ _ _ => xv0_4 rfl)⟩
def sp_X7_count : SP := fun as M k n Q => match as with
  | [.ref m, .int i, .int a, .int b] => ∃ A O L z, MRp A O M m L z ∧ wft L ∧ (∀ S, S ∈ L → szOK 400 S.2.2.1) ∧ ∀ U, MRp A O U m L (mCount L z i a b).2 → Fr (Ss m) O O M U → Q (some (.int (mCount L z i a b).1)) U k n
  | _ => False
theorem okX7_count : OkX7_count sp_X7_count := by
  refine inX7_count csoX7_count ?_
  intro as M k n Q hsp
  unfold sp_X7_count at hsp
  split at hsp
  rotate_left
  · exact hsp.elim
  rename_i m i a b
  obtain ⟨A, O, L, z, hR, hwt, hpr, hq⟩ := hsp
  have hM := hR.1
  have hO := hR.2.1
  have h0 := hM.1
  refine ⟨0, 0, Nat.zero_le _, Nat.zero_le _, Nat.le_of_ble_eq_true rfl, fun G hG => ?_⟩
  unfold mCount at hq
  rcases hR.at_ i with ⟨h1, h2⟩ | ⟨s, S, h1, rfl, h3, h4, h5, h6⟩
  · rw [h1] at hq
    refine e_g2 hG [] 40 ?_
    simp only [e_wp_s, Option.getD_some, Option.isSome_some, Option.isSome_none, xis0, xis1, xis2, xis3, xis4, e_ks, lk_k, lk_c, List.lookup_nil, gt_c, vi_i, k1_n, k1_c, k2_n, k2_c, ar_n, ar_c, pk_n, pk_c, rm_0, rm_1, rm_2, rm_3, rm_4, rm_5, rc_9, rcs, fvs, rf_s, rf_n, isI_i, isL_l, isR_r, isR_n, isR_q, ct_i, ct_l, ct_r, ct_n, ct_q, tFs, tCs, tKs, tJs, tSs, e_nf, lgs, ↓reduceIte, true_and, and_true, false_and, and_false, or_true, true_or, false_or, or_false, Nat.reduceAdd, Nat.reduceEqDiff, Nat.reduceDiv, Nat.reduceLT, Nat.reduceLeDiff, Nat.zero_add, reduceCtorEq, Bool.false_eq_true, Option.toList_some, Option.toList_none, List.cons_append, List.nil_append, not_true_eq_false, not_false_eq_true, Nat.sub_zero, dsX7_count, jsX7_count, xcX7_count, h0, h2, ↓sp_X7_isSeries]
    exact hq M hR Fr.rf
  · simp only [h1] at hq
    have sc : (nI s).toNatClampNeg = s := nI_clamp (by omega)
    have sv : vp_in (nI s) 8 := vp_in_nI h5 (by decide)
    have htm := hwt S (List.mem_of_getElem? h3)
    by_cases c1 : ¬ a < 0 ∧ a < b
    · rw [if_pos c1] at hq
      obtain ⟨k1, k2, k3, k4⟩ := clr_C (M := M) hO
      refine e_g2 hG [(26, [0, 1, 2, 3])] 60 ?_
      simp only [e_wp_s, Option.getD_some, Option.isSome_some, Option.isSome_none, xis0, xis1, xis2, xis3, xis4, e_ks, lk_k, lk_c, List.lookup_nil, gt_c, vi_i, k1_n, k1_c, k2_n, k2_c, ar_n, ar_c, pk_n, pk_c, rm_0, rm_1, rm_2, rm_3, rm_4, rm_5, rc_9, rcs, fvs, rf_s, rf_n, isI_i, isL_l, isR_r, isR_n, isR_q, ct_i, ct_l, ct_r, ct_n, ct_q, tFs, tCs, tKs, tJs, tSs, e_nf, lgs, ↓reduceIte, true_and, and_true, false_and, and_false, or_true, true_or, false_or, or_false, Nat.reduceAdd, Nat.reduceEqDiff, Nat.reduceDiv, Nat.reduceLT, Nat.reduceLeDiff, Nat.zero_add, reduceCtorEq, Bool.false_eq_true, Option.toList_some, Option.toList_none, List.cons_append, List.nil_append, not_true_eq_false, not_false_eq_true, Nat.sub_zero, dsX7_count, jsX7_count, xcX7_count, h0, h6, i10, c1, ↓sp_X7_isSeries, ↓sp_X7_isWindow, ↓sp_X7_clear]
      generalize clrM M m = B at *
      have hMB := k1.ms hM
      have b0 := hMB.1
      have hSB := h4.q k1.l6
      refine e_g2 hG [(34, [0, 1, 2, 3])] 60 ?_
      simp only [e_wp_s, Option.getD_some, Option.isSome_some, Option.isSome_none, xis0, xis1, xis2, xis3, xis4, e_ks, lk_k, lk_c, List.lookup_nil, gt_c, vi_i, k1_n, k1_c, k2_n, k2_c, ar_n, ar_c, pk_n, pk_c, rm_0, rm_1, rm_2, rm_3, rm_4, rm_5, rc_9, rcs, fvs, rf_s, rf_n, isI_i, isL_l, isR_r, isR_n, isR_q, ct_i, ct_l, ct_r, ct_n, ct_q, tFs, tCs, tKs, tJs, tSs, e_nf, lgs, ↓reduceIte, true_and, and_true, false_and, and_false, or_true, true_or, false_or, or_false, Nat.reduceAdd, Nat.reduceEqDiff, Nat.reduceDiv, Nat.reduceLT, Nat.reduceLeDiff, Nat.zero_add, reduceCtorEq, Bool.false_eq_true, Option.toList_some, Option.toList_none, List.cons_append, List.nil_append, not_true_eq_false, not_false_eq_true, Nat.sub_zero, dsX7_count, jsX7_count, xcX7_count, b0]
      refine ⟨O, A, s, S, (0, 0, 0), 0, hMB, hO, h5, hSB, htm, rfl, rfl, by decide, k2, k3, k4, fun C hC c48 c49 c50 => ?_⟩
      have hC1 := k1.tr hC
      have hMC := hC1.ms hM
      have d0 := hMC.1
      have hSC := h4.q hC1.l6
      simp only [Nat.zero_add] at c48 c49 c50
      refine e_g2 hG [(41, [])] 60 ?_
      simp only [e_wp_s, Option.getD_some, Option.isSome_some, Option.isSome_none, xis0, xis1, xis2, xis3, xis4, e_ks, lk_k, lk_c, List.lookup_nil, gt_c, vi_i, k1_n, k1_c, k2_n, k2_c, ar_n, ar_c, pk_n, pk_c, rm_0, rm_1, rm_2, rm_3, rm_4, rm_5, rc_9, rcs, fvs, rf_s, rf_n, isI_i, isL_l, isR_r, isR_n, isR_q, ct_i, ct_l, ct_r, ct_n, ct_q, tFs, tCs, tKs, tJs, tSs, e_nf, lgs, ↓reduceIte, true_and, and_true, false_and, and_false, or_true, true_or, false_or, or_false, Nat.reduceAdd, Nat.reduceEqDiff, Nat.reduceDiv, Nat.reduceLT, Nat.reduceLeDiff, Nat.zero_add, reduceCtorEq, Bool.false_eq_true, Option.toList_some, Option.toList_none, List.cons_append, List.nil_append, not_true_eq_false, not_false_eq_true, Nat.sub_zero, dsX7_count, jsX7_count, xcX7_count, d0]
      refine ⟨O, A, s, S, hMC, hO, h5, hSC, hpr S (List.mem_of_getElem? h3), rfl, fun U hU => ?_⟩
      have hRU : MRp A O U m L (mLk 0 S a b) := hR.zst (hC1.l6.tr hU.a6) (by rw [hU.2.2.2.2.2 248 (by decide)]; exact c48) (by rw [hU.2.2.2.2.2 249 (by decide)]; exact c49) (by rw [hU.2.2.2.2.2 250 (by decide)]; exact c50)
      have hFU : Fr (Ss m) O O M U := hC1.2.2.2.1.tr hU.2.2.2.1
      have hq := hq U hRU hFU
      refine e_g2 hG [] 60 ?_
      simp only [e_wp_s, Option.getD_some, Option.isSome_some, Option.isSome_none, xis0, xis1, xis2, xis3, xis4, e_ks, lk_k, lk_c, List.lookup_nil, gt_c, vi_i, k1_n, k1_c, k2_n, k2_c, ar_n, ar_c, pk_n, pk_c, rm_0, rm_1, rm_2, rm_3, rm_4, rm_5, rc_9, rcs, fvs, rf_s, rf_n, isI_i, isL_l, isR_r, isR_n, isR_q, ct_i, ct_l, ct_r, ct_n, ct_q, tFs, tCs, tKs, tJs, tSs, e_nf, lgs, ↓reduceIte, true_and, and_true, false_and, and_false, or_true, true_or, false_or, or_false, Nat.reduceAdd, Nat.reduceEqDiff, Nat.reduceDiv, Nat.reduceLT, Nat.reduceLeDiff, Nat.zero_add, reduceCtorEq, Bool.false_eq_true, Option.toList_some, Option.toList_none, List.cons_append, List.nil_append, not_true_eq_false, not_false_eq_true, Nat.sub_zero, dsX7_count, jsX7_count, xcX7_count]
      exact hq
    · rw [if_neg c1] at hq
      refine e_g2 hG [] 60 ?_
      simp only [e_wp_s, Option.getD_some, Option.isSome_some, Option.isSome_none, xis0, xis1, xis2, xis3, xis4, e_ks, lk_k, lk_c, List.lookup_nil, gt_c, vi_i, k1_n, k1_c, k2_n, k2_c, ar_n, ar_c, pk_n, pk_c, rm_0, rm_1, rm_2, rm_3, rm_4, rm_5, rc_9, rcs, fvs, rf_s, rf_n, isI_i, isL_l, isR_r, isR_n, isR_q, ct_i, ct_l, ct_r, ct_n, ct_q, tFs, tCs, tKs, tJs, tSs, e_nf, lgs, ↓reduceIte, true_and, and_true, false_and, and_false, or_true, true_or, false_or, or_false, Nat.reduceAdd, Nat.reduceEqDiff, Nat.reduceDiv, Nat.reduceLT, Nat.reduceLeDiff, Nat.zero_add, reduceCtorEq, Bool.false_eq_true, Option.toList_some, Option.toList_none, List.cons_append, List.nil_append, not_true_eq_false, not_false_eq_true, Nat.sub_zero, dsX7_count, jsX7_count, xcX7_count, h0, h6, i10, c1, ↓sp_X7_isSeries, ↓sp_X7_isWindow]
      exact hq M hR Fr.rf
def mSum (L : List SER) (z : Nat × Nat × Nat) (i a b : Int32) : Int64 × Nat × Nat × Nat := match ser L i with
  | none => (NOv, z)
  | some S => if ¬ a < 0 ∧ a < b then ((askM S a b q0).2.1, mLk 0 S a b) else (NOv, z)
def csX7_sum : CS := (cs_c 0 103 2 7 sp_X7_isSeries (cs_c 0 229 3 7 sp_X7_isWindow (cs_c 0 232 1 7 sp_X7_clear (cs_c 0 235 5 7 sp_X7_look (cs_c 0 242 4 7 sp_X7_summed cs_0)))))
theorem csoX7_sum : ∀ op x na cl sp, csX7_sum op x = some (na, cl, sp) → CallOK 7 5 120 op x na cl sp := (cs_c_ok (caX7_sum_103 okX7_isSeries) (cs_c_ok (caX7_sum_229 okX7_isWindow) (cs_c_ok (caX7_sum_232 okX7_clear) (cs_c_ok (caX7_sum_235 okX7_look) (cs_c_ok (caX7_sum_242 okX7_summed) cs_0_ok)))))
theorem xcX7_sum : (∀ (Q : QT) (G : GT) (pc : Nat) (L : LV) (a0 a1 : Value) (r : List Value) (M : HM) (k n : Nat), ex_i 7 4 2 false csX7_sum Q G (.invokevirtual 103) pc L (a1 :: a0 :: r) M k n = (e_rm r ∧ e_rc M 7 [a0, a1] ∧ sp_X7_isSeries [a0, a1] M k n (fun v M' k' n' => G (pc + 3) L (v.toList ++ r) M' k' n'))) ∧ (∀ (Q : QT) (G : GT) (pc : Nat) (L : LV) (a0 a1 a2 : Value) (r : List Value) (M : HM) (k n : Nat), ex_i 7 4 2 false csX7_sum Q G (.invokevirtual 229) pc L (a2 :: a1 :: a0 :: r) M k n = (e_rm r ∧ e_rc M 7 [a0, a1, a2] ∧ sp_X7_isWindow [a0, a1, a2] M k n (fun v M' k' n' => G (pc + 3) L (v.toList ++ r) M' k' n'))) ∧ (∀ (Q : QT) (G : GT) (pc : Nat) (L : LV) (a0 : Value) (r : List Value) (M : HM) (k n : Nat), ex_i 7 4 2 false csX7_sum Q G (.invokevirtual 232) pc L (a0 :: r) M k n = (e_rm r ∧ e_rc M 7 [a0] ∧ sp_X7_clear [a0] M k n (fun v M' k' n' => G (pc + 3) L (v.toList ++ r) M' k' n'))) ∧ (∀ (Q : QT) (G : GT) (pc : Nat) (L : LV) (a0 a1 a2 a3 a4 : Value) (r : List Value) (M : HM) (k n : Nat), ex_i 7 4 2 false csX7_sum Q G (.invokevirtual 235) pc L (a4 :: a3 :: a2 :: a1 :: a0 :: r) M k n = (e_rm r ∧ e_rc M 7 [a0, a1, a2, a3, a4] ∧ sp_X7_look [a0, a1, a2, a3, a4] M k n (fun v M' k' n' => G (pc + 3) L (v.toList ++ r) M' k' n'))) ∧ (∀ (Q : QT) (G : GT) (pc : Nat) (L : LV) (a0 a1 a2 a3 : Value) (r : List Value) (M : HM) (k n : Nat), ex_i 7 4 2 false csX7_sum Q G (.invokevirtual 242) pc L (a3 :: a2 :: a1 :: a0 :: r) M k n = (e_rm r ∧ e_rc M 7 [a0, a1, a2, a3] ∧ sp_X7_summed [a0, a1, a2, a3] M k n (fun v M' k' n' => G (pc + 3) L (v.toList ++ r) M' k' n'))) := ⟨(fun _ _ _ _ _ _ _ _ _ _ => xv0_2 rfl), (fun _ _ _ _ _ _ _ _ _ _ _ => xv0_3 rfl), (fun _ _ _ _ _ _ _ _ _ => xv0_1 rfl), (fun _ _ _ _ _ _ _ _ _ _ _ _ _ => xv0_5 rfl), (fun _ _ _ _ _ _ _ _ _ _ _ _ => xv0_4 rfl)⟩
def sp_X7_sum : SP := fun as M k n Q => match as with
  | [.ref m, .int i, .int a, .int b] => ∃ A O L z, MRp A O M m L z ∧ wft L ∧ ∀ U, MRp A O U m L (mSum L z i a b).2 → Fr (Ss m) O O M U → Q (some (.long (mSum L z i a b).1)) U k n
  | _ => False
theorem okX7_sum : OkX7_sum sp_X7_sum := by
  refine inX7_sum csoX7_sum ?_
  intro as M k n Q hsp
  unfold sp_X7_sum at hsp
  split at hsp
  rotate_left
  · exact hsp.elim
  rename_i m i a b
  obtain ⟨A, O, L, z, hR, hwt, hq⟩ := hsp
  have hM := hR.1
  have hO := hR.2.1
  have h0 := hM.1
  refine ⟨0, 0, Nat.zero_le _, Nat.zero_le _, Nat.le_of_ble_eq_true rfl, fun G hG => ?_⟩
  unfold mSum at hq
  rcases hR.at_ i with ⟨h1, h2⟩ | ⟨s, S, h1, rfl, h3, h4, h5, h6⟩
  · rw [h1] at hq
    refine e_g2 hG [] 40 ?_
    simp only [e_wp_s, Option.getD_some, Option.isSome_some, Option.isSome_none, xis0, xis1, xis2, xis3, xis4, e_ks, lk_k, lk_c, List.lookup_nil, gt_c, vi_i, k1_n, k1_c, k2_n, k2_c, ar_n, ar_c, pk_n, pk_c, rm_0, rm_1, rm_2, rm_3, rm_4, rm_5, rc_9, rcs, fvs, rf_s, rf_n, isI_i, isL_l, isR_r, isR_n, isR_q, ct_i, ct_l, ct_r, ct_n, ct_q, tFs, tCs, tKs, tJs, tSs, e_nf, lgs, ↓reduceIte, true_and, and_true, false_and, and_false, or_true, true_or, false_or, or_false, Nat.reduceAdd, Nat.reduceEqDiff, Nat.reduceDiv, Nat.reduceLT, Nat.reduceLeDiff, Nat.zero_add, reduceCtorEq, Bool.false_eq_true, Option.toList_some, Option.toList_none, List.cons_append, List.nil_append, not_true_eq_false, not_false_eq_true, Nat.sub_zero, dsX7_sum, jsX7_sum, xcX7_sum, h0, h2, ↓sp_X7_isSeries]
    exact hq M hR Fr.rf
  · simp only [h1] at hq
    have sc : (nI s).toNatClampNeg = s := nI_clamp (by omega)
    have sv : vp_in (nI s) 8 := vp_in_nI h5 (by decide)
    have htm := hwt S (List.mem_of_getElem? h3)
    by_cases c1 : ¬ a < 0 ∧ a < b
    · rw [if_pos c1] at hq
      obtain ⟨k1, k2, k3, k4⟩ := clr_C (M := M) hO
      refine e_g2 hG [(25, [0, 1, 2, 3])] 60 ?_
      simp only [e_wp_s, Option.getD_some, Option.isSome_some, Option.isSome_none, xis0, xis1, xis2, xis3, xis4, e_ks, lk_k, lk_c, List.lookup_nil, gt_c, vi_i, k1_n, k1_c, k2_n, k2_c, ar_n, ar_c, pk_n, pk_c, rm_0, rm_1, rm_2, rm_3, rm_4, rm_5, rc_9, rcs, fvs, rf_s, rf_n, isI_i, isL_l, isR_r, isR_n, isR_q, ct_i, ct_l, ct_r, ct_n, ct_q, tFs, tCs, tKs, tJs, tSs, e_nf, lgs, ↓reduceIte, true_and, and_true, false_and, and_false, or_true, true_or, false_or, or_false, Nat.reduceAdd, Nat.reduceEqDiff, Nat.reduceDiv, Nat.reduceLT, Nat.reduceLeDiff, Nat.zero_add, reduceCtorEq, Bool.false_eq_true, Option.toList_some, Option.toList_none, List.cons_append, List.nil_append, not_true_eq_false, not_false_eq_true, Nat.sub_zero, dsX7_sum, jsX7_sum, xcX7_sum, h0, h6, i10, c1, ↓sp_X7_isSeries, ↓sp_X7_isWindow, ↓sp_X7_clear]
      generalize clrM M m = B at *
      have hMB := k1.ms hM
      have b0 := hMB.1
      have hSB := h4.q k1.l6
      refine e_g2 hG [(33, [0, 1, 2, 3])] 60 ?_
      simp only [e_wp_s, Option.getD_some, Option.isSome_some, Option.isSome_none, xis0, xis1, xis2, xis3, xis4, e_ks, lk_k, lk_c, List.lookup_nil, gt_c, vi_i, k1_n, k1_c, k2_n, k2_c, ar_n, ar_c, pk_n, pk_c, rm_0, rm_1, rm_2, rm_3, rm_4, rm_5, rc_9, rcs, fvs, rf_s, rf_n, isI_i, isL_l, isR_r, isR_n, isR_q, ct_i, ct_l, ct_r, ct_n, ct_q, tFs, tCs, tKs, tJs, tSs, e_nf, lgs, ↓reduceIte, true_and, and_true, false_and, and_false, or_true, true_or, false_or, or_false, Nat.reduceAdd, Nat.reduceEqDiff, Nat.reduceDiv, Nat.reduceLT, Nat.reduceLeDiff, Nat.zero_add, reduceCtorEq, Bool.false_eq_true, Option.toList_some, Option.toList_none, List.cons_append, List.nil_append, not_true_eq_false, not_false_eq_true, Nat.sub_zero, dsX7_sum, jsX7_sum, xcX7_sum, b0]
      refine ⟨O, A, s, S, (0, 0, 0), 0, hMB, hO, h5, hSB, htm, rfl, rfl, by decide, k2, k3, k4, fun C hC c48 c49 c50 => ?_⟩
      have hC1 := k1.tr hC
      have hMC := hC1.ms hM
      have d0 := hMC.1
      have hSC := h4.q hC1.l6
      simp only [Nat.zero_add] at c48 c49 c50
      refine e_g2 hG [(40, [])] 60 ?_
      simp only [e_wp_s, Option.getD_some, Option.isSome_some, Option.isSome_none, xis0, xis1, xis2, xis3, xis4, e_ks, lk_k, lk_c, List.lookup_nil, gt_c, vi_i, k1_n, k1_c, k2_n, k2_c, ar_n, ar_c, pk_n, pk_c, rm_0, rm_1, rm_2, rm_3, rm_4, rm_5, rc_9, rcs, fvs, rf_s, rf_n, isI_i, isL_l, isR_r, isR_n, isR_q, ct_i, ct_l, ct_r, ct_n, ct_q, tFs, tCs, tKs, tJs, tSs, e_nf, lgs, ↓reduceIte, true_and, and_true, false_and, and_false, or_true, true_or, false_or, or_false, Nat.reduceAdd, Nat.reduceEqDiff, Nat.reduceDiv, Nat.reduceLT, Nat.reduceLeDiff, Nat.zero_add, reduceCtorEq, Bool.false_eq_true, Option.toList_some, Option.toList_none, List.cons_append, List.nil_append, not_true_eq_false, not_false_eq_true, Nat.sub_zero, dsX7_sum, jsX7_sum, xcX7_sum, d0]
      refine ⟨O, A, s, S, hMC, hO, h5, hSC, rfl, fun U hU => ?_⟩
      have hRU : MRp A O U m L (mLk 0 S a b) := hR.zst (hC1.l6.tr hU.a6) (by rw [hU.2.2.2.2.2 248 (by decide)]; exact c48) (by rw [hU.2.2.2.2.2 249 (by decide)]; exact c49) (by rw [hU.2.2.2.2.2 250 (by decide)]; exact c50)
      have hFU : Fr (Ss m) O O M U := hC1.2.2.2.1.tr hU.2.2.2.1
      have hq := hq U hRU hFU
      refine e_g2 hG [] 60 ?_
      simp only [e_wp_s, Option.getD_some, Option.isSome_some, Option.isSome_none, xis0, xis1, xis2, xis3, xis4, e_ks, lk_k, lk_c, List.lookup_nil, gt_c, vi_i, k1_n, k1_c, k2_n, k2_c, ar_n, ar_c, pk_n, pk_c, rm_0, rm_1, rm_2, rm_3, rm_4, rm_5, rc_9, rcs, fvs, rf_s, rf_n, isI_i, isL_l, isR_r, isR_n, isR_q, ct_i, ct_l, ct_r, ct_n, ct_q, tFs, tCs, tKs, tJs, tSs, e_nf, lgs, ↓reduceIte, true_and, and_true, false_and, and_false, or_true, true_or, false_or, or_false, Nat.reduceAdd, Nat.reduceEqDiff, Nat.reduceDiv, Nat.reduceLT, Nat.reduceLeDiff, Nat.zero_add, reduceCtorEq, Bool.false_eq_true, Option.toList_some, Option.toList_none, List.cons_append, List.nil_append, not_true_eq_false, not_false_eq_true, Nat.sub_zero, dsX7_sum, jsX7_sum, xcX7_sum]
      exact hq
    · rw [if_neg c1] at hq
      refine e_g2 hG [] 60 ?_
      simp only [e_wp_s, Option.getD_some, Option.isSome_some, Option.isSome_none, xis0, xis1, xis2, xis3, xis4, e_ks, lk_k, lk_c, List.lookup_nil, gt_c, vi_i, k1_n, k1_c, k2_n, k2_c, ar_n, ar_c, pk_n, pk_c, rm_0, rm_1, rm_2, rm_3, rm_4, rm_5, rc_9, rcs, fvs, rf_s, rf_n, isI_i, isL_l, isR_r, isR_n, isR_q, ct_i, ct_l, ct_r, ct_n, ct_q, tFs, tCs, tKs, tJs, tSs, e_nf, lgs, ↓reduceIte, true_and, and_true, false_and, and_false, or_true, true_or, false_or, or_false, Nat.reduceAdd, Nat.reduceEqDiff, Nat.reduceDiv, Nat.reduceLT, Nat.reduceLeDiff, Nat.zero_add, reduceCtorEq, Bool.false_eq_true, Option.toList_some, Option.toList_none, List.cons_append, List.nil_append, not_true_eq_false, not_false_eq_true, Nat.sub_zero, dsX7_sum, jsX7_sum, xcX7_sum, h0, h6, i10, c1, ↓sp_X7_isSeries, ↓sp_X7_isWindow]
      exact hq M hR Fr.rf
def mRise (L : List SER) (z : Nat × Nat × Nat) (i a b : Int32) : Int64 × Nat × Nat × Nat := match ser L i with
  | none => (NOv, z)
  | some S => if (¬ a < 0 ∧ a < b) ∧ S.1 = 3 then (rsW a b (tkl S), mLk 1 S a b) else (NOv, z)
def csX7_rise : CS := (cs_c 0 103 2 7 sp_X7_isSeries (cs_c 0 229 3 7 sp_X7_isWindow (cs_c 0 232 1 7 sp_X7_clear (cs_c 0 235 5 7 sp_X7_look (cs_c 0 223 2 7 sp_X7_take cs_0)))))
theorem csoX7_rise : ∀ op x na cl sp, csX7_rise op x = some (na, cl, sp) → CallOK 7 5 120 op x na cl sp := (cs_c_ok (caX7_rise_103 okX7_isSeries) (cs_c_ok (caX7_rise_229 okX7_isWindow) (cs_c_ok (caX7_rise_232 okX7_clear) (cs_c_ok (caX7_rise_235 okX7_look) (cs_c_ok (caX7_rise_223 okX7_take) cs_0_ok)))))
theorem xcX7_rise : (∀ (Q : QT) (G : GT) (pc : Nat) (L : LV) (a0 a1 : Value) (r : List Value) (M : HM) (k n : Nat), ex_i 7 7 2 false csX7_rise Q G (.invokevirtual 103) pc L (a1 :: a0 :: r) M k n = (e_rm r ∧ e_rc M 7 [a0, a1] ∧ sp_X7_isSeries [a0, a1] M k n (fun v M' k' n' => G (pc + 3) L (v.toList ++ r) M' k' n'))) ∧ (∀ (Q : QT) (G : GT) (pc : Nat) (L : LV) (a0 a1 a2 : Value) (r : List Value) (M : HM) (k n : Nat), ex_i 7 7 2 false csX7_rise Q G (.invokevirtual 229) pc L (a2 :: a1 :: a0 :: r) M k n = (e_rm r ∧ e_rc M 7 [a0, a1, a2] ∧ sp_X7_isWindow [a0, a1, a2] M k n (fun v M' k' n' => G (pc + 3) L (v.toList ++ r) M' k' n'))) ∧ (∀ (Q : QT) (G : GT) (pc : Nat) (L : LV) (a0 : Value) (r : List Value) (M : HM) (k n : Nat), ex_i 7 7 2 false csX7_rise Q G (.invokevirtual 232) pc L (a0 :: r) M k n = (e_rm r ∧ e_rc M 7 [a0] ∧ sp_X7_clear [a0] M k n (fun v M' k' n' => G (pc + 3) L (v.toList ++ r) M' k' n'))) ∧ (∀ (Q : QT) (G : GT) (pc : Nat) (L : LV) (a0 a1 a2 a3 a4 : Value) (r : List Value) (M : HM) (k n : Nat), ex_i 7 7 2 false csX7_rise Q G (.invokevirtual 235) pc L (a4 :: a3 :: a2 :: a1 :: a0 :: r) M k n = (e_rm r ∧ e_rc M 7 [a0, a1, a2, a3, a4] ∧ sp_X7_look [a0, a1, a2, a3, a4] M k n (fun v M' k' n' => G (pc + 3) L (v.toList ++ r) M' k' n'))) ∧ (∀ (Q : QT) (G : GT) (pc : Nat) (L : LV) (a0 a1 : Value) (r : List Value) (M : HM) (k n : Nat), ex_i 7 7 2 false csX7_rise Q G (.invokevirtual 223) pc L (a1 :: a0 :: r) M k n = (e_rm r ∧ e_rc M 7 [a0, a1] ∧ sp_X7_take [a0, a1] M k n (fun v M' k' n' => G (pc + 3) L (v.toList ++ r) M' k' n'))) := ⟨(fun _ _ _ _ _ _ _ _ _ _ => xv0_2 rfl), (fun _ _ _ _ _ _ _ _ _ _ _ => xv0_3 rfl), (fun _ _ _ _ _ _ _ _ _ => xv0_1 rfl), (fun _ _ _ _ _ _ _ _ _ _ _ _ _ => xv0_5 rfl), (fun _ _ _ _ _ _ _ _ _ _ => xv0_2 rfl)⟩
def sp_X7_rise : SP := fun as M k n Q => match as with
  | [.ref m, .int i, .int a, .int b] => ∃ A O L z, MRp A O M m L z ∧ wft L ∧ ∀ U, MRp A O U m L (mRise L z i a b).2 → Fr (Ss m) O O M U → Q (some (.long (mRise L z i a b).1)) U k n
  | _ => False
theorem okX7_rise : OkX7_rise sp_X7_rise := by
  refine inX7_rise csoX7_rise ?_
  intro as M k n Q hsp
  unfold sp_X7_rise at hsp
  split at hsp
  rotate_left
  · exact hsp.elim
  rename_i m i a b
  obtain ⟨A, O, L, z, hR, hwt, hq⟩ := hsp
  have hM := hR.1
  have hO := hR.2.1
  have h0 := hM.1
  obtain ⟨r225, k225, l225⟩ : mR M 225 m = some (A 225) ∧ mK M (A 225) = 9 ∧ mN M (A 225) = 8 := hM.2 225 rfl
  refine ⟨0, 0, Nat.zero_le _, Nat.zero_le _, Nat.le_of_ble_eq_true rfl, fun G hG => ?_⟩
  unfold mRise at hq
  rcases hR.at_ i with ⟨h1, h2⟩ | ⟨s, S, h1, rfl, h3, h4, h5, h6⟩
  · rw [h1] at hq
    refine e_g2 hG [] 40 ?_
    simp only [e_wp_s, Option.getD_some, Option.isSome_some, Option.isSome_none, xis0, xis1, xis2, xis3, xis4, e_ks, lk_k, lk_c, List.lookup_nil, gt_c, vi_i, k1_n, k1_c, k2_n, k2_c, ar_n, ar_c, pk_n, pk_c, rm_0, rm_1, rm_2, rm_3, rm_4, rm_5, rc_9, rcs, fvs, rf_s, rf_n, isI_i, isL_l, isR_r, isR_n, isR_q, ct_i, ct_l, ct_r, ct_n, ct_q, tFs, tCs, tKs, tJs, tSs, e_nf, lgs, ↓reduceIte, true_and, and_true, false_and, and_false, or_true, true_or, false_or, or_false, Nat.reduceAdd, Nat.reduceEqDiff, Nat.reduceDiv, Nat.reduceLT, Nat.reduceLeDiff, Nat.zero_add, reduceCtorEq, Bool.false_eq_true, Option.toList_some, Option.toList_none, List.cons_append, List.nil_append, not_true_eq_false, not_false_eq_true, Nat.sub_zero, dsX7_rise, jsX7_rise, xcX7_rise, h0, h2, ↓sp_X7_isSeries]
    exact hq M hR Fr.rf
  · simp only [h1] at hq
    have sc : (nI s).toNatClampNeg = s := nI_clamp (by omega)
    have sv : vp_in (nI s) 8 := vp_in_nI h5 (by decide)
    have htm := hwt S (List.mem_of_getElem? h3)
    have hkd : aI M (A 225) s = S.1 := h4.1.1
    by_cases c1 : ¬ a < 0 ∧ a < b
    · by_cases c2 : S.1 = 3
      · rw [if_pos ⟨c1, c2⟩] at hq
        obtain ⟨k1, k2, k3, k4⟩ := clr_C (M := M) hO
        refine e_g2 hG [(35, [0, 1, 2, 3])] 60 ?_
        simp only [e_wp_s, Option.getD_some, Option.isSome_some, Option.isSome_none, xis0, xis1, xis2, xis3, xis4, e_ks, lk_k, lk_c, List.lookup_nil, gt_c, vi_i, k1_n, k1_c, k2_n, k2_c, ar_n, ar_c, pk_n, pk_c, rm_0, rm_1, rm_2, rm_3, rm_4, rm_5, rc_9, rcs, fvs, rf_s, rf_n, isI_i, isL_l, isR_r, isR_n, isR_q, ct_i, ct_l, ct_r, ct_n, ct_q, tFs, tCs, tKs, tJs, tSs, e_nf, lgs, ↓reduceIte, true_and, and_true, false_and, and_false, or_true, true_or, false_or, or_false, Nat.reduceAdd, Nat.reduceEqDiff, Nat.reduceDiv, Nat.reduceLT, Nat.reduceLeDiff, Nat.zero_add, reduceCtorEq, Bool.false_eq_true, Option.toList_some, Option.toList_none, List.cons_append, List.nil_append, not_true_eq_false, not_false_eq_true, Nat.sub_zero, dsX7_rise, jsX7_rise, xcX7_rise, h0, h6, i10, c1, c2, r225, k225, l225, sc, sv, hkd, ↓sp_X7_isSeries, ↓sp_X7_isWindow, ↓sp_X7_clear]
        generalize clrM M m = B at *
        have hMB := k1.ms hM
        have b0 := hMB.1
        have hSB := h4.q k1.l6
        refine e_g2 hG [(43, [0, 1, 2, 3])] 60 ?_
        simp only [e_wp_s, Option.getD_some, Option.isSome_some, Option.isSome_none, xis0, xis1, xis2, xis3, xis4, e_ks, lk_k, lk_c, List.lookup_nil, gt_c, vi_i, k1_n, k1_c, k2_n, k2_c, ar_n, ar_c, pk_n, pk_c, rm_0, rm_1, rm_2, rm_3, rm_4, rm_5, rc_9, rcs, fvs, rf_s, rf_n, isI_i, isL_l, isR_r, isR_n, isR_q, ct_i, ct_l, ct_r, ct_n, ct_q, tFs, tCs, tKs, tJs, tSs, e_nf, lgs, ↓reduceIte, true_and, and_true, false_and, and_false, or_true, true_or, false_or, or_false, Nat.reduceAdd, Nat.reduceEqDiff, Nat.reduceDiv, Nat.reduceLT, Nat.reduceLeDiff, Nat.zero_add, reduceCtorEq, Bool.false_eq_true, Option.toList_some, Option.toList_none, List.cons_append, List.nil_append, not_true_eq_false, not_false_eq_true, Nat.sub_zero, dsX7_rise, jsX7_rise, xcX7_rise, b0]
        refine ⟨O, A, s, S, (0, 0, 0), 1, hMB, hO, h5, hSB, htm, rfl, rfl, by decide, k2, k3, k4, fun C hC c48 c49 c50 => ?_⟩
        have hC1 := k1.tr hC
        have hMC := hC1.ms hM
        have d0 := hMC.1
        have hSC := h4.q hC1.l6
        simp only [Nat.zero_add] at c48 c49 c50
        refine e_g2 hG [(48, [0, 2, 3])] 60 ?_
        simp only [e_wp_s, Option.getD_some, Option.isSome_some, Option.isSome_none, xis0, xis1, xis2, xis3, xis4, e_ks, lk_k, lk_c, List.lookup_nil, gt_c, vi_i, k1_n, k1_c, k2_n, k2_c, ar_n, ar_c, pk_n, pk_c, rm_0, rm_1, rm_2, rm_3, rm_4, rm_5, rc_9, rcs, fvs, rf_s, rf_n, isI_i, isL_l, isR_r, isR_n, isR_q, ct_i, ct_l, ct_r, ct_n, ct_q, tFs, tCs, tKs, tJs, tSs, e_nf, lgs, ↓reduceIte, true_and, and_true, false_and, and_false, or_true, true_or, false_or, or_false, Nat.reduceAdd, Nat.reduceEqDiff, Nat.reduceDiv, Nat.reduceLT, Nat.reduceLeDiff, Nat.zero_add, reduceCtorEq, Bool.false_eq_true, Option.toList_some, Option.toList_none, List.cons_append, List.nil_append, not_true_eq_false, not_false_eq_true, Nat.sub_zero, dsX7_rise, jsX7_rise, xcX7_rise, d0]
        refine ⟨O, A, s, S, hMC, hO, h5, hSC, rfl, fun U hU hA => ?_⟩
        have hRU : MRp A O U m L (mLk 1 S a b) := hR.zst (hC1.l6.tr hU.a6) (by rw [hU.2.2.2.2.2 248 (by decide)]; exact c48) (by rw [hU.2.2.2.2.2 249 (by decide)]; exact c49) (by rw [hU.2.2.2.2.2 250 (by decide)]; exact c50)
        have hFU : Fr (Ss m) O O M U := hC1.2.2.2.1.tr hU.2.2.2.1
        have hq := hq U hRU hFU
        have hMU := hU.ms hMC
        have g0 := hMU.1
        obtain ⟨r251, k251, l251⟩ : mR U 251 m = some (A 251) ∧ mK U (A 251) = 9 ∧ mN U (A 251) = 350 := hMU.2 251 rfl
        obtain ⟨r252, k252, l252⟩ : mR U 252 m = some (A 252) ∧ mK U (A 252) = 10 ∧ mN U (A 252) = 350 := hMU.2 252 rfl
        have hAc := hA.1
        have hAl := hA.2.1
        have htk : tkl S = takA S.2.2.2.2 (mpts (unt S.2.2.2.1)) := rfl
        rw [← htk] at hA hAc hAl
        have atp : ∀ k p, (tkl S)[k]? = some p → aI U (A 251) k = p.1 ∧ aL U (A 252) k = p.2 ∧ k < (tkl S).length := fun k p hp => by
          have hp2 := rdf_at hA.2.2 hp
          rw [Nat.zero_add] at hp2
          exact ⟨by rw [← hp2], by rw [← hp2], (List.getElem?_eq_some_iff.mp hp).1⟩
        generalize tkl S = T at *
        have loop : ∀ d j c p, j + d = T.length → 0 < j → T[j - 1]? = some p → c + rsw a b p (T.drop j) = rsW a b T → G 54 [(0, .ref m), (2, .int a), (3, .int b), (4, .long c), (6, .int (nI j))] [] U 0 0 := by
          intro d
          induction d with
          | zero =>
            intro j c p hj h0j hp he
            have e1 : ¬ nI j < nI T.length := nI_nlt (by omega) (by omega)
            rw [List.drop_eq_nil_of_le (by omega), rsw, Int64.add_zero] at he
            refine e_g2 hG [] 60 ?_
            simp only [e_wp_s, Option.getD_some, Option.isSome_some, Option.isSome_none, xis0, xis1, xis2, xis3, xis4, e_ks, lk_k, lk_c, List.lookup_nil, gt_c, vi_i, k1_n, k1_c, k2_n, k2_c, ar_n, ar_c, pk_n, pk_c, rm_0, rm_1, rm_2, rm_3, rm_4, rm_5, rc_9, rcs, fvs, rf_s, rf_n, isI_i, isL_l, isR_r, isR_n, isR_q, ct_i, ct_l, ct_r, ct_n, ct_q, tFs, tCs, tKs, tJs, tSs, e_nf, lgs, ↓reduceIte, true_and, and_true, false_and, and_false, or_true, true_or, false_or, or_false, Nat.reduceAdd, Nat.reduceEqDiff, Nat.reduceDiv, Nat.reduceLT, Nat.reduceLeDiff, Nat.zero_add, reduceCtorEq, Bool.false_eq_true, Option.toList_some, Option.toList_none, List.cons_append, List.nil_append, not_true_eq_false, not_false_eq_true, Nat.sub_zero, dsX7_rise, jsX7_rise, xcX7_rise, g0, hAc, e1]
            rw [he]
            exact hq
          | succ d ih =>
            intro j c p hj h0j hp he
            have e1 : nI j < nI T.length := nI_lt (by omega) (by omega)
            have e3 : nI j - 1 = nI (j - 1) := nI_sub (b := 1) (by omega)
            obtain ⟨q, hx⟩ : ∃ q, T[j]? = some q := ⟨_, List.getElem?_eq_getElem (by omega)⟩
            obtain ⟨q1, q2, q3⟩ := atp j q hx
            obtain ⟨p1, p2, p3⟩ := atp (j - 1) p hp
            have i1 : (nI j).toNatClampNeg = j := nI_clamp (by omega)
            have i2 : vp_in (nI j) 350 := vp_in_nI (by omega) (by decide)
            have i3 : (nI (j - 1)).toNatClampNeg = j - 1 := nI_clamp (by omega)
            have i4 : vp_in (nI (j - 1)) 350 := vp_in_nI (by omega) (by decide)
            rw [lbl_drop (t := 0) hx, rsw, ← Int64.add_assoc] at he
            have ih2 := ih (j + 1) _ q (by omega) (by omega) hx he
            by_cases d1 : p.1 < a
            · rw [if_neg (fun z => z.1 d1), Int64.add_zero] at ih2
              refine e_g2 hG [(54, [0, 2, 3, 4, 6])] 60 ?_
              simp only [e_wp_s, Option.getD_some, Option.isSome_some, Option.isSome_none, xis0, xis1, xis2, xis3, xis4, e_ks, lk_k, lk_c, List.lookup_nil, gt_c, vi_i, k1_n, k1_c, k2_n, k2_c, ar_n, ar_c, pk_n, pk_c, rm_0, rm_1, rm_2, rm_3, rm_4, rm_5, rc_9, rcs, fvs, rf_s, rf_n, isI_i, isL_l, isR_r, isR_n, isR_q, ct_i, ct_l, ct_r, ct_n, ct_q, tFs, tCs, tKs, tJs, tSs, e_nf, lgs, ↓reduceIte, true_and, and_true, false_and, and_false, or_true, true_or, false_or, or_false, Nat.reduceAdd, Nat.reduceEqDiff, Nat.reduceDiv, Nat.reduceLT, Nat.reduceLeDiff, Nat.zero_add, reduceCtorEq, Bool.false_eq_true, Option.toList_some, Option.toList_none, List.cons_append, List.nil_append, not_true_eq_false, not_false_eq_true, Nat.sub_zero, dsX7_rise, jsX7_rise, xcX7_rise, g0, r251, k251, l251, hAc, e1, e3, i1, i2, i3, i4, p1, d1, nI_1]
              exact ih2
            by_cases d2 : q.1 < b
            · rw [if_pos ⟨d1, d2⟩] at ih2
              by_cases d3 : q.2 < p.2
              · rw [if_pos d3] at ih2
                refine e_g2 hG [(54, [0, 2, 3, 4, 6])] 80 ?_
                simp only [e_wp_s, Option.getD_some, Option.isSome_some, Option.isSome_none, xis0, xis1, xis2, xis3, xis4, e_ks, lk_k, lk_c, List.lookup_nil, gt_c, vi_i, k1_n, k1_c, k2_n, k2_c, ar_n, ar_c, pk_n, pk_c, rm_0, rm_1, rm_2, rm_3, rm_4, rm_5, rc_9, rcs, fvs, rf_s, rf_n, isI_i, isL_l, isR_r, isR_n, isR_q, ct_i, ct_l, ct_r, ct_n, ct_q, tFs, tCs, tKs, tJs, tSs, e_nf, lgs, ↓reduceIte, true_and, and_true, false_and, and_false, or_true, true_or, false_or, or_false, Nat.reduceAdd, Nat.reduceEqDiff, Nat.reduceDiv, Nat.reduceLT, Nat.reduceLeDiff, Nat.zero_add, reduceCtorEq, Bool.false_eq_true, Option.toList_some, Option.toList_none, List.cons_append, List.nil_append, not_true_eq_false, not_false_eq_true, Nat.sub_zero, dsX7_rise, jsX7_rise, xcX7_rise, g0, r251, k251, l251, r252, k252, l252, hAc, e1, e3, i1, i2, i3, i4, p1, p2, q1, q2, d1, d2, d3, nI_1]
                exact ih2
              · rw [if_neg d3] at ih2
                refine e_g2 hG [(54, [0, 2, 3, 4, 6])] 80 ?_
                simp only [e_wp_s, Option.getD_some, Option.isSome_some, Option.isSome_none, xis0, xis1, xis2, xis3, xis4, e_ks, lk_k, lk_c, List.lookup_nil, gt_c, vi_i, k1_n, k1_c, k2_n, k2_c, ar_n, ar_c, pk_n, pk_c, rm_0, rm_1, rm_2, rm_3, rm_4, rm_5, rc_9, rcs, fvs, rf_s, rf_n, isI_i, isL_l, isR_r, isR_n, isR_q, ct_i, ct_l, ct_r, ct_n, ct_q, tFs, tCs, tKs, tJs, tSs, e_nf, lgs, ↓reduceIte, true_and, and_true, false_and, and_false, or_true, true_or, false_or, or_false, Nat.reduceAdd, Nat.reduceEqDiff, Nat.reduceDiv, Nat.reduceLT, Nat.reduceLeDiff, Nat.zero_add, reduceCtorEq, Bool.false_eq_true, Option.toList_some, Option.toList_none, List.cons_append, List.nil_append, not_true_eq_false, not_false_eq_true, Nat.sub_zero, dsX7_rise, jsX7_rise, xcX7_rise, g0, r251, k251, l251, r252, k252, l252, hAc, e1, e3, i1, i2, i3, i4, p1, p2, q1, q2, d1, d2, d3, nI_1]
                exact ih2
            · rw [if_neg (fun z => d2 z.2), Int64.add_zero] at ih2
              refine e_g2 hG [(54, [0, 2, 3, 4, 6])] 60 ?_
              simp only [e_wp_s, Option.getD_some, Option.isSome_some, Option.isSome_none, xis0, xis1, xis2, xis3, xis4, e_ks, lk_k, lk_c, List.lookup_nil, gt_c, vi_i, k1_n, k1_c, k2_n, k2_c, ar_n, ar_c, pk_n, pk_c, rm_0, rm_1, rm_2, rm_3, rm_4, rm_5, rc_9, rcs, fvs, rf_s, rf_n, isI_i, isL_l, isR_r, isR_n, isR_q, ct_i, ct_l, ct_r, ct_n, ct_q, tFs, tCs, tKs, tJs, tSs, e_nf, lgs, ↓reduceIte, true_and, and_true, false_and, and_false, or_true, true_or, false_or, or_false, Nat.reduceAdd, Nat.reduceEqDiff, Nat.reduceDiv, Nat.reduceLT, Nat.reduceLeDiff, Nat.zero_add, reduceCtorEq, Bool.false_eq_true, Option.toList_some, Option.toList_none, List.cons_append, List.nil_append, not_true_eq_false, not_false_eq_true, Nat.sub_zero, dsX7_rise, jsX7_rise, xcX7_rise, g0, r251, k251, l251, hAc, e1, e3, i1, i2, i3, i4, p1, q1, d1, d2, nI_1]
              exact ih2
        refine e_g2 hG [(54, [0, 2, 3, 4, 6])] 60 ?_
        simp only [e_wp_s, Option.getD_some, Option.isSome_some, Option.isSome_none, xis0, xis1, xis2, xis3, xis4, e_ks, lk_k, lk_c, List.lookup_nil, gt_c, vi_i, k1_n, k1_c, k2_n, k2_c, ar_n, ar_c, pk_n, pk_c, rm_0, rm_1, rm_2, rm_3, rm_4, rm_5, rc_9, rcs, fvs, rf_s, rf_n, isI_i, isL_l, isR_r, isR_n, isR_q, ct_i, ct_l, ct_r, ct_n, ct_q, tFs, tCs, tKs, tJs, tSs, e_nf, lgs, ↓reduceIte, true_and, and_true, false_and, and_false, or_true, true_or, false_or, or_false, Nat.reduceAdd, Nat.reduceEqDiff, Nat.reduceDiv, Nat.reduceLT, Nat.reduceLeDiff, Nat.zero_add, reduceCtorEq, Bool.false_eq_true, Option.toList_some, Option.toList_none, List.cons_append, List.nil_append, not_true_eq_false, not_false_eq_true, Nat.sub_zero, dsX7_rise, jsX7_rise, xcX7_rise]
        by_cases cl : T.length = 0
        · have e1 : ¬ (1 : Int32) < nI T.length := by rw [cl]; decide
          have hT0 : T = [] := List.length_eq_zero_iff.mp cl
          refine e_g2 hG [] 60 ?_
          simp only [e_wp_s, Option.getD_some, Option.isSome_some, Option.isSome_none, xis0, xis1, xis2, xis3, xis4, e_ks, lk_k, lk_c, List.lookup_nil, gt_c, vi_i, k1_n, k1_c, k2_n, k2_c, ar_n, ar_c, pk_n, pk_c, rm_0, rm_1, rm_2, rm_3, rm_4, rm_5, rc_9, rcs, fvs, rf_s, rf_n, isI_i, isL_l, isR_r, isR_n, isR_q, ct_i, ct_l, ct_r, ct_n, ct_q, tFs, tCs, tKs, tJs, tSs, e_nf, lgs, ↓reduceIte, true_and, and_true, false_and, and_false, or_true, true_or, false_or, or_false, Nat.reduceAdd, Nat.reduceEqDiff, Nat.reduceDiv, Nat.reduceLT, Nat.reduceLeDiff, Nat.zero_add, reduceCtorEq, Bool.false_eq_true, Option.toList_some, Option.toList_none, List.cons_append, List.nil_append, not_true_eq_false, not_false_eq_true, Nat.sub_zero, dsX7_rise, jsX7_rise, xcX7_rise, g0, hAc, e1]
          rw [hT0] at hq
          exact hq
        · obtain ⟨q, hx⟩ : ∃ q, T[0]? = some q := ⟨_, List.getElem?_eq_getElem (by omega)⟩
          exact loop (T.length - 1) 1 0 q (by omega) (by omega) hx (by
            have : T = q :: T.drop 1 := by
              have h2 := lbl_drop (t := 0) hx
              rw [List.drop_zero] at h2
              exact h2
            conv => rhs; rw [this, rsW]
            rw [Int64.zero_add])
      · rw [if_neg (fun q => c2 q.2)] at hq
        refine e_g2 hG [] 60 ?_
        simp only [e_wp_s, Option.getD_some, Option.isSome_some, Option.isSome_none, xis0, xis1, xis2, xis3, xis4, e_ks, lk_k, lk_c, List.lookup_nil, gt_c, vi_i, k1_n, k1_c, k2_n, k2_c, ar_n, ar_c, pk_n, pk_c, rm_0, rm_1, rm_2, rm_3, rm_4, rm_5, rc_9, rcs, fvs, rf_s, rf_n, isI_i, isL_l, isR_r, isR_n, isR_q, ct_i, ct_l, ct_r, ct_n, ct_q, tFs, tCs, tKs, tJs, tSs, e_nf, lgs, ↓reduceIte, true_and, and_true, false_and, and_false, or_true, true_or, false_or, or_false, Nat.reduceAdd, Nat.reduceEqDiff, Nat.reduceDiv, Nat.reduceLT, Nat.reduceLeDiff, Nat.zero_add, reduceCtorEq, Bool.false_eq_true, Option.toList_some, Option.toList_none, List.cons_append, List.nil_append, not_true_eq_false, not_false_eq_true, Nat.sub_zero, dsX7_rise, jsX7_rise, xcX7_rise, h0, h6, i10, c1, c2, r225, k225, l225, sc, sv, hkd, ↓sp_X7_isSeries, ↓sp_X7_isWindow]
        exact hq M hR Fr.rf
    · rw [if_neg (fun q => c1 q.1)] at hq
      refine e_g2 hG [] 60 ?_
      simp only [e_wp_s, Option.getD_some, Option.isSome_some, Option.isSome_none, xis0, xis1, xis2, xis3, xis4, e_ks, lk_k, lk_c, List.lookup_nil, gt_c, vi_i, k1_n, k1_c, k2_n, k2_c, ar_n, ar_c, pk_n, pk_c, rm_0, rm_1, rm_2, rm_3, rm_4, rm_5, rc_9, rcs, fvs, rf_s, rf_n, isI_i, isL_l, isR_r, isR_n, isR_q, ct_i, ct_l, ct_r, ct_n, ct_q, tFs, tCs, tKs, tJs, tSs, e_nf, lgs, ↓reduceIte, true_and, and_true, false_and, and_false, or_true, true_or, false_or, or_false, Nat.reduceAdd, Nat.reduceEqDiff, Nat.reduceDiv, Nat.reduceLT, Nat.reduceLeDiff, Nat.zero_add, reduceCtorEq, Bool.false_eq_true, Option.toList_some, Option.toList_none, List.cons_append, List.nil_append, not_true_eq_false, not_false_eq_true, Nat.sub_zero, dsX7_rise, jsX7_rise, xcX7_rise, h0, h6, i10, c1, ↓sp_X7_isSeries, ↓sp_X7_isWindow]
      exact hq M hR Fr.rf
def mLevel (L : List SER) (z : Nat × Nat × Nat) (i a b : Int32) (v : Int64) : Int64 × Nat × Nat × Nat := match ser L i with
  | none => (NOv, z)
  | some S => if (¬ a < 0 ∧ a < b) ∧ S.1 = 2 then (lvW v a b (tkl S), mLk 2 S a b) else (NOv, z)
def csX7_level : CS := (cs_c 0 103 2 7 sp_X7_isSeries (cs_c 0 229 3 7 sp_X7_isWindow (cs_c 0 232 1 7 sp_X7_clear (cs_c 0 235 5 7 sp_X7_look (cs_c 0 223 2 7 sp_X7_take cs_0)))))
theorem csoX7_level : ∀ op x na cl sp, csX7_level op x = some (na, cl, sp) → CallOK 7 5 120 op x na cl sp := (cs_c_ok (caX7_level_103 okX7_isSeries) (cs_c_ok (caX7_level_229 okX7_isWindow) (cs_c_ok (caX7_level_232 okX7_clear) (cs_c_ok (caX7_level_235 okX7_look) (cs_c_ok (caX7_level_223 okX7_take) cs_0_ok)))))
theorem xcX7_level : (∀ (Q : QT) (G : GT) (pc : Nat) (L : LV) (a0 a1 : Value) (r : List Value) (M : HM) (k n : Nat), ex_i 7 11 2 false csX7_level Q G (.invokevirtual 103) pc L (a1 :: a0 :: r) M k n = (e_rm r ∧ e_rc M 7 [a0, a1] ∧ sp_X7_isSeries [a0, a1] M k n (fun v M' k' n' => G (pc + 3) L (v.toList ++ r) M' k' n'))) ∧ (∀ (Q : QT) (G : GT) (pc : Nat) (L : LV) (a0 a1 a2 : Value) (r : List Value) (M : HM) (k n : Nat), ex_i 7 11 2 false csX7_level Q G (.invokevirtual 229) pc L (a2 :: a1 :: a0 :: r) M k n = (e_rm r ∧ e_rc M 7 [a0, a1, a2] ∧ sp_X7_isWindow [a0, a1, a2] M k n (fun v M' k' n' => G (pc + 3) L (v.toList ++ r) M' k' n'))) ∧ (∀ (Q : QT) (G : GT) (pc : Nat) (L : LV) (a0 : Value) (r : List Value) (M : HM) (k n : Nat), ex_i 7 11 2 false csX7_level Q G (.invokevirtual 232) pc L (a0 :: r) M k n = (e_rm r ∧ e_rc M 7 [a0] ∧ sp_X7_clear [a0] M k n (fun v M' k' n' => G (pc + 3) L (v.toList ++ r) M' k' n'))) ∧ (∀ (Q : QT) (G : GT) (pc : Nat) (L : LV) (a0 a1 a2 a3 a4 : Value) (r : List Value) (M : HM) (k n : Nat), ex_i 7 11 2 false csX7_level Q G (.invokevirtual 235) pc L (a4 :: a3 :: a2 :: a1 :: a0 :: r) M k n = (e_rm r ∧ e_rc M 7 [a0, a1, a2, a3, a4] ∧ sp_X7_look [a0, a1, a2, a3, a4] M k n (fun v M' k' n' => G (pc + 3) L (v.toList ++ r) M' k' n'))) ∧ (∀ (Q : QT) (G : GT) (pc : Nat) (L : LV) (a0 a1 : Value) (r : List Value) (M : HM) (k n : Nat), ex_i 7 11 2 false csX7_level Q G (.invokevirtual 223) pc L (a1 :: a0 :: r) M k n = (e_rm r ∧ e_rc M 7 [a0, a1] ∧ sp_X7_take [a0, a1] M k n (fun v M' k' n' => G (pc + 3) L (v.toList ++ r) M' k' n'))) := ⟨(fun _ _ _ _ _ _ _ _ _ _ => xv0_2 rfl), (fun _ _ _ _ _ _ _ _ _ _ _ => xv0_3 rfl), (fun _ _ _ _ _ _ _ _ _ => xv0_1 rfl), (fun _ _ _ _ _ _ _ _ _ _ _ _ _ => xv0_5 rfl), (fun _ _ _ _ _ _ _ _ _ _ => xv0_2 rfl)⟩
def sp_X7_level : SP := fun as M k n Q => match as with
  | [.ref m, .int i, .int a, .int b, .long v] => ∃ A O L z, MRp A O M m L z ∧ wft L ∧ ∀ U, MRp A O U m L (mLevel L z i a b v).2 → Fr (Ss m) O O M U → Q (some (.long (mLevel L z i a b v).1)) U k n
  | _ => False
theorem okX7_level : OkX7_level sp_X7_level := by
  refine inX7_level csoX7_level ?_
  intro as M k n Q hsp
  unfold sp_X7_level at hsp
  split at hsp
  rotate_left
  · exact hsp.elim
  rename_i m i a b v
  obtain ⟨A, O, L, z, hR, hwt, hq⟩ := hsp
  have hM := hR.1
  have hO := hR.2.1
  have h0 := hM.1
  obtain ⟨r225, k225, l225⟩ : mR M 225 m = some (A 225) ∧ mK M (A 225) = 9 ∧ mN M (A 225) = 8 := hM.2 225 rfl
  refine ⟨0, 0, Nat.zero_le _, Nat.zero_le _, Nat.le_of_ble_eq_true rfl, fun G hG => ?_⟩
  unfold mLevel at hq
  rcases hR.at_ i with ⟨h1, h2⟩ | ⟨s, S, h1, rfl, h3, h4, h5, h6⟩
  · rw [h1] at hq
    refine e_g2 hG [] 40 ?_
    simp only [e_wp_s, Option.getD_some, Option.isSome_some, Option.isSome_none, xis0, xis1, xis2, xis3, xis4, e_ks, lk_k, lk_c, List.lookup_nil, gt_c, vi_i, k1_n, k1_c, k2_n, k2_c, ar_n, ar_c, pk_n, pk_c, rm_0, rm_1, rm_2, rm_3, rm_4, rm_5, rc_9, rcs, fvs, rf_s, rf_n, isI_i, isL_l, isR_r, isR_n, isR_q, ct_i, ct_l, ct_r, ct_n, ct_q, tFs, tCs, tKs, tJs, tSs, e_nf, lgs, ↓reduceIte, true_and, and_true, false_and, and_false, or_true, true_or, false_or, or_false, Nat.reduceAdd, Nat.reduceEqDiff, Nat.reduceDiv, Nat.reduceLT, Nat.reduceLeDiff, Nat.zero_add, reduceCtorEq, Bool.false_eq_true, Option.toList_some, Option.toList_none, List.cons_append, List.nil_append, not_true_eq_false, not_false_eq_true, Nat.sub_zero, dsX7_level, jsX7_level, xcX7_level, h0, h2, ↓sp_X7_isSeries]
    exact hq M hR Fr.rf
  · simp only [h1] at hq
    have sc : (nI s).toNatClampNeg = s := nI_clamp (by omega)
    have sv : vp_in (nI s) 8 := vp_in_nI h5 (by decide)
    have htm := hwt S (List.mem_of_getElem? h3)
    have hkd : aI M (A 225) s = S.1 := h4.1.1
    by_cases c1 : ¬ a < 0 ∧ a < b
    · by_cases c2 : S.1 = 2
      · rw [if_pos ⟨c1, c2⟩] at hq
        obtain ⟨k1, k2, k3, k4⟩ := clr_C (M := M) hO
        refine e_g2 hG [(35, [0, 1, 2, 3, 4])] 60 ?_
        simp only [e_wp_s, Option.getD_some, Option.isSome_some, Option.isSome_none, xis0, xis1, xis2, xis3, xis4, e_ks, lk_k, lk_c, List.lookup_nil, gt_c, vi_i, k1_n, k1_c, k2_n, k2_c, ar_n, ar_c, pk_n, pk_c, rm_0, rm_1, rm_2, rm_3, rm_4, rm_5, rc_9, rcs, fvs, rf_s, rf_n, isI_i, isL_l, isR_r, isR_n, isR_q, ct_i, ct_l, ct_r, ct_n, ct_q, tFs, tCs, tKs, tJs, tSs, e_nf, lgs, ↓reduceIte, true_and, and_true, false_and, and_false, or_true, true_or, false_or, or_false, Nat.reduceAdd, Nat.reduceEqDiff, Nat.reduceDiv, Nat.reduceLT, Nat.reduceLeDiff, Nat.zero_add, reduceCtorEq, Bool.false_eq_true, Option.toList_some, Option.toList_none, List.cons_append, List.nil_append, not_true_eq_false, not_false_eq_true, Nat.sub_zero, dsX7_level, jsX7_level, xcX7_level, h0, h6, i10, c1, c2, r225, k225, l225, sc, sv, hkd, ↓sp_X7_isSeries, ↓sp_X7_isWindow, ↓sp_X7_clear]
        generalize clrM M m = B at *
        have hMB := k1.ms hM
        have b0 := hMB.1
        have hSB := h4.q k1.l6
        refine e_g2 hG [(43, [0, 1, 2, 3, 4])] 60 ?_
        simp only [e_wp_s, Option.getD_some, Option.isSome_some, Option.isSome_none, xis0, xis1, xis2, xis3, xis4, e_ks, lk_k, lk_c, List.lookup_nil, gt_c, vi_i, k1_n, k1_c, k2_n, k2_c, ar_n, ar_c, pk_n, pk_c, rm_0, rm_1, rm_2, rm_3, rm_4, rm_5, rc_9, rcs, fvs, rf_s, rf_n, isI_i, isL_l, isR_r, isR_n, isR_q, ct_i, ct_l, ct_r, ct_n, ct_q, tFs, tCs, tKs, tJs, tSs, e_nf, lgs, ↓reduceIte, true_and, and_true, false_and, and_false, or_true, true_or, false_or, or_false, Nat.reduceAdd, Nat.reduceEqDiff, Nat.reduceDiv, Nat.reduceLT, Nat.reduceLeDiff, Nat.zero_add, reduceCtorEq, Bool.false_eq_true, Option.toList_some, Option.toList_none, List.cons_append, List.nil_append, not_true_eq_false, not_false_eq_true, Nat.sub_zero, dsX7_level, jsX7_level, xcX7_level, b0]
        refine ⟨O, A, s, S, (0, 0, 0), 2, hMB, hO, h5, hSB, htm, rfl, rfl, by decide, k2, k3, k4, fun C hC c48 c49 c50 => ?_⟩
        have hC1 := k1.tr hC
        have hMC := hC1.ms hM
        have d0 := hMC.1
        have hSC := h4.q hC1.l6
        simp only [Nat.zero_add] at c48 c49 c50
        refine e_g2 hG [(48, [0, 2, 3, 4])] 60 ?_
        simp only [e_wp_s, Option.getD_some, Option.isSome_some, Option.isSome_none, xis0, xis1, xis2, xis3, xis4, e_ks, lk_k, lk_c, List.lookup_nil, gt_c, vi_i, k1_n, k1_c, k2_n, k2_c, ar_n, ar_c, pk_n, pk_c, rm_0, rm_1, rm_2, rm_3, rm_4, rm_5, rc_9, rcs, fvs, rf_s, rf_n, isI_i, isL_l, isR_r, isR_n, isR_q, ct_i, ct_l, ct_r, ct_n, ct_q, tFs, tCs, tKs, tJs, tSs, e_nf, lgs, ↓reduceIte, true_and, and_true, false_and, and_false, or_true, true_or, false_or, or_false, Nat.reduceAdd, Nat.reduceEqDiff, Nat.reduceDiv, Nat.reduceLT, Nat.reduceLeDiff, Nat.zero_add, reduceCtorEq, Bool.false_eq_true, Option.toList_some, Option.toList_none, List.cons_append, List.nil_append, not_true_eq_false, not_false_eq_true, Nat.sub_zero, dsX7_level, jsX7_level, xcX7_level, d0]
        refine ⟨O, A, s, S, hMC, hO, h5, hSC, rfl, fun U hU hA => ?_⟩
        have hRU : MRp A O U m L (mLk 2 S a b) := hR.zst (hC1.l6.tr hU.a6) (by rw [hU.2.2.2.2.2 248 (by decide)]; exact c48) (by rw [hU.2.2.2.2.2 249 (by decide)]; exact c49) (by rw [hU.2.2.2.2.2 250 (by decide)]; exact c50)
        have hFU : Fr (Ss m) O O M U := hC1.2.2.2.1.tr hU.2.2.2.1
        have hq := hq U hRU hFU
        have hMU := hU.ms hMC
        have g0 := hMU.1
        obtain ⟨r251, k251, l251⟩ : mR U 251 m = some (A 251) ∧ mK U (A 251) = 9 ∧ mN U (A 251) = 350 := hMU.2 251 rfl
        obtain ⟨r252, k252, l252⟩ : mR U 252 m = some (A 252) ∧ mK U (A 252) = 10 ∧ mN U (A 252) = 350 := hMU.2 252 rfl
        have hAc := hA.1
        have hAl := hA.2.1
        have htk : tkl S = takA S.2.2.2.2 (mpts (unt S.2.2.2.1)) := rfl
        rw [← htk] at hA hAc hAl
        have atp : ∀ k p, (tkl S)[k]? = some p → aI U (A 251) k = p.1 ∧ aL U (A 252) k = p.2 ∧ k < (tkl S).length := fun k p hp => by
          have hp2 := rdf_at hA.2.2 hp
          rw [Nat.zero_add] at hp2
          exact ⟨by rw [← hp2], by rw [← hp2], (List.getElem?_eq_some_iff.mp hp).1⟩
        generalize tkl S = T at *
        have loop : ∀ d j c, j + d = T.length → c + lvW v a b (T.drop j) = lvW v a b T → G 54 [(0, .ref m), (2, .int a), (3, .int b), (4, .long v), (6, .long c), (8, .int (nI j))] [] U 0 0 := by
          intro d
          induction d with
          | zero =>
            intro j c hj he
            have e1 : ¬ nI j < nI T.length := nI_nlt (by omega) (by omega)
            rw [List.drop_eq_nil_of_le (by omega), lvW, Int64.add_zero] at he
            refine e_g2 hG [] 60 ?_
            simp only [e_wp_s, Option.getD_some, Option.isSome_some, Option.isSome_none, xis0, xis1, xis2, xis3, xis4, e_ks, lk_k, lk_c, List.lookup_nil, gt_c, vi_i, k1_n, k1_c, k2_n, k2_c, ar_n, ar_c, pk_n, pk_c, rm_0, rm_1, rm_2, rm_3, rm_4, rm_5, rc_9, rcs, fvs, rf_s, rf_n, isI_i, isL_l, isR_r, isR_n, isR_q, ct_i, ct_l, ct_r, ct_n, ct_q, tFs, tCs, tKs, tJs, tSs, e_nf, lgs, ↓reduceIte, true_and, and_true, false_and, and_false, or_true, true_or, false_or, or_false, Nat.reduceAdd, Nat.reduceEqDiff, Nat.reduceDiv, Nat.reduceLT, Nat.reduceLeDiff, Nat.zero_add, reduceCtorEq, Bool.false_eq_true, Option.toList_some, Option.toList_none, List.cons_append, List.nil_append, not_true_eq_false, not_false_eq_true, Nat.sub_zero, dsX7_level, jsX7_level, xcX7_level, g0, hAc, e1]
            rw [he]
            exact hq
          | succ d ih =>
            intro j c hj he
            have e1 : nI j < nI T.length := nI_lt (by omega) (by omega)
            obtain ⟨p, hx⟩ : ∃ p, T[j]? = some p := ⟨_, List.getElem?_eq_getElem (by omega)⟩
            obtain ⟨p1, p2, p3⟩ := atp j p hx
            have i1 : (nI j).toNatClampNeg = j := nI_clamp (by omega)
            have i2 : vp_in (nI j) 350 := vp_in_nI (by omega) (by decide)
            rw [lbl_drop (t := 0) hx, lvW, ← Int64.add_assoc] at he
            have ih2 := ih (j + 1) _ (by omega) he
            have fin : G 100 [(0, .ref m), (2, .int a), (3, .int b), (4, .long v), (6, .long c), (8, .int (nI j))] [.int (lvE b (T.drop (j + 1)))] U 0 0 := by
              generalize lvE b (T.drop (j + 1)) = E at *
              have fin2 : ∀ f, (if a < p.1 then p.1 else a) = f → G 124 [(0, .ref m), (2, .int a), (3, .int b), (4, .long v), (6, .long c), (8, .int (nI j)), (9, .int E)] [.int f] U 0 0 := fun f hf => by
                unfold lvT at ih2
                rw [hf] at ih2
                by_cases d1 : p.2 = v
                · by_cases d2 : f < E
                  · rw [if_pos ⟨d1, d2⟩] at ih2
                    refine e_g2 hG [(54, [0, 2, 3, 4, 6, 8])] 60 ?_
                    simp only [e_wp_s, Option.getD_some, Option.isSome_some, Option.isSome_none, xis0, xis1, xis2, xis3, xis4, e_ks, lk_k, lk_c, List.lookup_nil, gt_c, vi_i, k1_n, k1_c, k2_n, k2_c, ar_n, ar_c, pk_n, pk_c, rm_0, rm_1, rm_2, rm_3, rm_4, rm_5, rc_9, rcs, fvs, rf_s, rf_n, isI_i, isL_l, isR_r, isR_n, isR_q, ct_i, ct_l, ct_r, ct_n, ct_q, tFs, tCs, tKs, tJs, tSs, e_nf, lgs, ↓reduceIte, true_and, and_true, false_and, and_false, or_true, true_or, false_or, or_false, Nat.reduceAdd, Nat.reduceEqDiff, Nat.reduceDiv, Nat.reduceLT, Nat.reduceLeDiff, Nat.zero_add, reduceCtorEq, Bool.false_eq_true, Option.toList_some, Option.toList_none, List.cons_append, List.nil_append, not_true_eq_false, not_false_eq_true, Nat.sub_zero, dsX7_level, jsX7_level, xcX7_level, g0, r252, k252, l252, i1, i2, p2, d1, d2, nI_1]
                    exact ih2
                  · rw [if_neg (fun z => d2 z.2), Int64.add_zero] at ih2
                    refine e_g2 hG [(54, [0, 2, 3, 4, 6, 8])] 60 ?_
                    simp only [e_wp_s, Option.getD_some, Option.isSome_some, Option.isSome_none, xis0, xis1, xis2, xis3, xis4, e_ks, lk_k, lk_c, List.lookup_nil, gt_c, vi_i, k1_n, k1_c, k2_n, k2_c, ar_n, ar_c, pk_n, pk_c, rm_0, rm_1, rm_2, rm_3, rm_4, rm_5, rc_9, rcs, fvs, rf_s, rf_n, isI_i, isL_l, isR_r, isR_n, isR_q, ct_i, ct_l, ct_r, ct_n, ct_q, tFs, tCs, tKs, tJs, tSs, e_nf, lgs, ↓reduceIte, true_and, and_true, false_and, and_false, or_true, true_or, false_or, or_false, Nat.reduceAdd, Nat.reduceEqDiff, Nat.reduceDiv, Nat.reduceLT, Nat.reduceLeDiff, Nat.zero_add, reduceCtorEq, Bool.false_eq_true, Option.toList_some, Option.toList_none, List.cons_append, List.nil_append, not_true_eq_false, not_false_eq_true, Nat.sub_zero, dsX7_level, jsX7_level, xcX7_level, g0, r252, k252, l252, i1, i2, p2, d1, d2, nI_1]
                    exact ih2
                · rw [if_neg (fun z => d1 z.1), Int64.add_zero] at ih2
                  refine e_g2 hG [(54, [0, 2, 3, 4, 6, 8])] 60 ?_
                  simp only [e_wp_s, Option.getD_some, Option.isSome_some, Option.isSome_none, xis0, xis1, xis2, xis3, xis4, e_ks, lk_k, lk_c, List.lookup_nil, gt_c, vi_i, k1_n, k1_c, k2_n, k2_c, ar_n, ar_c, pk_n, pk_c, rm_0, rm_1, rm_2, rm_3, rm_4, rm_5, rc_9, rcs, fvs, rf_s, rf_n, isI_i, isL_l, isR_r, isR_n, isR_q, ct_i, ct_l, ct_r, ct_n, ct_q, tFs, tCs, tKs, tJs, tSs, e_nf, lgs, ↓reduceIte, true_and, and_true, false_and, and_false, or_true, true_or, false_or, or_false, Nat.reduceAdd, Nat.reduceEqDiff, Nat.reduceDiv, Nat.reduceLT, Nat.reduceLeDiff, Nat.zero_add, reduceCtorEq, Bool.false_eq_true, Option.toList_some, Option.toList_none, List.cons_append, List.nil_append, not_true_eq_false, not_false_eq_true, Nat.sub_zero, dsX7_level, jsX7_level, xcX7_level, g0, r252, k252, l252, i1, i2, p2, d1, nI_1]
                  exact ih2
              by_cases d3 : a < p.1
              · refine e_g2 hG [(124, [0, 2, 3, 4, 6, 8, 9])] 60 ?_
                simp only [e_wp_s, Option.getD_some, Option.isSome_some, Option.isSome_none, xis0, xis1, xis2, xis3, xis4, e_ks, lk_k, lk_c, List.lookup_nil, gt_c, vi_i, k1_n, k1_c, k2_n, k2_c, ar_n, ar_c, pk_n, pk_c, rm_0, rm_1, rm_2, rm_3, rm_4, rm_5, rc_9, rcs, fvs, rf_s, rf_n, isI_i, isL_l, isR_r, isR_n, isR_q, ct_i, ct_l, ct_r, ct_n, ct_q, tFs, tCs, tKs, tJs, tSs, e_nf, lgs, ↓reduceIte, true_and, and_true, false_and, and_false, or_true, true_or, false_or, or_false, Nat.reduceAdd, Nat.reduceEqDiff, Nat.reduceDiv, Nat.reduceLT, Nat.reduceLeDiff, Nat.zero_add, reduceCtorEq, Bool.false_eq_true, Option.toList_some, Option.toList_none, List.cons_append, List.nil_append, not_true_eq_false, not_false_eq_true, Nat.sub_zero, dsX7_level, jsX7_level, xcX7_level, g0, r251, k251, l251, i1, i2, p1, d3]
                exact fin2 _ (if_pos d3)
              · refine e_g2 hG [(124, [0, 2, 3, 4, 6, 8, 9])] 60 ?_
                simp only [e_wp_s, Option.getD_some, Option.isSome_some, Option.isSome_none, xis0, xis1, xis2, xis3, xis4, e_ks, lk_k, lk_c, List.lookup_nil, gt_c, vi_i, k1_n, k1_c, k2_n, k2_c, ar_n, ar_c, pk_n, pk_c, rm_0, rm_1, rm_2, rm_3, rm_4, rm_5, rc_9, rcs, fvs, rf_s, rf_n, isI_i, isL_l, isR_r, isR_n, isR_q, ct_i, ct_l, ct_r, ct_n, ct_q, tFs, tCs, tKs, tJs, tSs, e_nf, lgs, ↓reduceIte, true_and, and_true, false_and, and_false, or_true, true_or, false_or, or_false, Nat.reduceAdd, Nat.reduceEqDiff, Nat.reduceDiv, Nat.reduceLT, Nat.reduceLeDiff, Nat.zero_add, reduceCtorEq, Bool.false_eq_true, Option.toList_some, Option.toList_none, List.cons_append, List.nil_append, not_true_eq_false, not_false_eq_true, Nat.sub_zero, dsX7_level, jsX7_level, xcX7_level, g0, r251, k251, l251, i1, i2, p1, d3]
                exact fin2 _ (if_neg d3)
            by_cases cn : j + 1 < T.length
            · obtain ⟨q, hx2⟩ : ∃ q, T[j + 1]? = some q := ⟨_, List.getElem?_eq_getElem cn⟩
              obtain ⟨q1, q2, q3⟩ := atp (j + 1) q hx2
              have e2 : nI (j + 1) < nI T.length := nI_lt cn (by omega)
              have i3 : (nI (j + 1)).toNatClampNeg = j + 1 := nI_clamp (by omega)
              have i4 : vp_in (nI (j + 1)) 350 := vp_in_nI (by omega) (by decide)
              rw [lbl_drop (t := 0) hx2, lvE] at fin
              by_cases d4 : q.1 < b
              · rw [if_pos d4] at fin
                refine e_g2 hG [(100, [0, 2, 3, 4, 6, 8])] 60 ?_
                simp only [e_wp_s, Option.getD_some, Option.isSome_some, Option.isSome_none, xis0, xis1, xis2, xis3, xis4, e_ks, lk_k, lk_c, List.lookup_nil, gt_c, vi_i, k1_n, k1_c, k2_n, k2_c, ar_n, ar_c, pk_n, pk_c, rm_0, rm_1, rm_2, rm_3, rm_4, rm_5, rc_9, rcs, fvs, rf_s, rf_n, isI_i, isL_l, isR_r, isR_n, isR_q, ct_i, ct_l, ct_r, ct_n, ct_q, tFs, tCs, tKs, tJs, tSs, e_nf, lgs, ↓reduceIte, true_and, and_true, false_and, and_false, or_true, true_or, false_or, or_false, Nat.reduceAdd, Nat.reduceEqDiff, Nat.reduceDiv, Nat.reduceLT, Nat.reduceLeDiff, Nat.zero_add, reduceCtorEq, Bool.false_eq_true, Option.toList_some, Option.toList_none, List.cons_append, List.nil_append, not_true_eq_false, not_false_eq_true, Nat.sub_zero, dsX7_level, jsX7_level, xcX7_level, g0, r251, k251, l251, hAc, e1, e2, i3, i4, q1, d4, nI_1]
                exact fin
              · rw [if_neg d4] at fin
                refine e_g2 hG [(100, [0, 2, 3, 4, 6, 8])] 60 ?_
                simp only [e_wp_s, Option.getD_some, Option.isSome_some, Option.isSome_none, xis0, xis1, xis2, xis3, xis4, e_ks, lk_k, lk_c, List.lookup_nil, gt_c, vi_i, k1_n, k1_c, k2_n, k2_c, ar_n, ar_c, pk_n, pk_c, rm_0, rm_1, rm_2, rm_3, rm_4, rm_5, rc_9, rcs, fvs, rf_s, rf_n, isI_i, isL_l, isR_r, isR_n, isR_q, ct_i, ct_l, ct_r, ct_n, ct_q, tFs, tCs, tKs, tJs, tSs, e_nf, lgs, ↓reduceIte, true_and, and_true, false_and, and_false, or_true, true_or, false_or, or_false, Nat.reduceAdd, Nat.reduceEqDiff, Nat.reduceDiv, Nat.reduceLT, Nat.reduceLeDiff, Nat.zero_add, reduceCtorEq, Bool.false_eq_true, Option.toList_some, Option.toList_none, List.cons_append, List.nil_append, not_true_eq_false, not_false_eq_true, Nat.sub_zero, dsX7_level, jsX7_level, xcX7_level, g0, r251, k251, l251, hAc, e1, e2, i3, i4, q1, d4, nI_1]
                exact fin
            · have e2 : ¬ nI (j + 1) < nI T.length := nI_nlt (by omega) (by omega)
              rw [List.drop_eq_nil_of_le (show T.length ≤ j + 1 by omega), lvE] at fin
              refine e_g2 hG [(100, [0, 2, 3, 4, 6, 8])] 60 ?_
              simp only [e_wp_s, Option.getD_some, Option.isSome_some, Option.isSome_none, xis0, xis1, xis2, xis3, xis4, e_ks, lk_k, lk_c, List.lookup_nil, gt_c, vi_i, k1_n, k1_c, k2_n, k2_c, ar_n, ar_c, pk_n, pk_c, rm_0, rm_1, rm_2, rm_3, rm_4, rm_5, rc_9, rcs, fvs, rf_s, rf_n, isI_i, isL_l, isR_r, isR_n, isR_q, ct_i, ct_l, ct_r, ct_n, ct_q, tFs, tCs, tKs, tJs, tSs, e_nf, lgs, ↓reduceIte, true_and, and_true, false_and, and_false, or_true, true_or, false_or, or_false, Nat.reduceAdd, Nat.reduceEqDiff, Nat.reduceDiv, Nat.reduceLT, Nat.reduceLeDiff, Nat.zero_add, reduceCtorEq, Bool.false_eq_true, Option.toList_some, Option.toList_none, List.cons_append, List.nil_append, not_true_eq_false, not_false_eq_true, Nat.sub_zero, dsX7_level, jsX7_level, xcX7_level, g0, hAc, e1, e2, nI_1]
              exact fin
        refine e_g2 hG [(54, [0, 2, 3, 4, 6, 8])] 60 ?_
        simp only [e_wp_s, Option.getD_some, Option.isSome_some, Option.isSome_none, xis0, xis1, xis2, xis3, xis4, e_ks, lk_k, lk_c, List.lookup_nil, gt_c, vi_i, k1_n, k1_c, k2_n, k2_c, ar_n, ar_c, pk_n, pk_c, rm_0, rm_1, rm_2, rm_3, rm_4, rm_5, rc_9, rcs, fvs, rf_s, rf_n, isI_i, isL_l, isR_r, isR_n, isR_q, ct_i, ct_l, ct_r, ct_n, ct_q, tFs, tCs, tKs, tJs, tSs, e_nf, lgs, ↓reduceIte, true_and, and_true, false_and, and_false, or_true, true_or, false_or, or_false, Nat.reduceAdd, Nat.reduceEqDiff, Nat.reduceDiv, Nat.reduceLT, Nat.reduceLeDiff, Nat.zero_add, reduceCtorEq, Bool.false_eq_true, Option.toList_some, Option.toList_none, List.cons_append, List.nil_append, not_true_eq_false, not_false_eq_true, Nat.sub_zero, dsX7_level, jsX7_level, xcX7_level]
        exact loop T.length 0 0 (by omega) (by rw [Int64.zero_add]; rfl)
      · rw [if_neg (fun q => c2 q.2)] at hq
        refine e_g2 hG [] 60 ?_
        simp only [e_wp_s, Option.getD_some, Option.isSome_some, Option.isSome_none, xis0, xis1, xis2, xis3, xis4, e_ks, lk_k, lk_c, List.lookup_nil, gt_c, vi_i, k1_n, k1_c, k2_n, k2_c, ar_n, ar_c, pk_n, pk_c, rm_0, rm_1, rm_2, rm_3, rm_4, rm_5, rc_9, rcs, fvs, rf_s, rf_n, isI_i, isL_l, isR_r, isR_n, isR_q, ct_i, ct_l, ct_r, ct_n, ct_q, tFs, tCs, tKs, tJs, tSs, e_nf, lgs, ↓reduceIte, true_and, and_true, false_and, and_false, or_true, true_or, false_or, or_false, Nat.reduceAdd, Nat.reduceEqDiff, Nat.reduceDiv, Nat.reduceLT, Nat.reduceLeDiff, Nat.zero_add, reduceCtorEq, Bool.false_eq_true, Option.toList_some, Option.toList_none, List.cons_append, List.nil_append, not_true_eq_false, not_false_eq_true, Nat.sub_zero, dsX7_level, jsX7_level, xcX7_level, h0, h6, i10, c1, c2, r225, k225, l225, sc, sv, hkd, ↓sp_X7_isSeries, ↓sp_X7_isWindow]
        exact hq M hR Fr.rf
    · rw [if_neg (fun q => c1 q.1)] at hq
      refine e_g2 hG [] 60 ?_
      simp only [e_wp_s, Option.getD_some, Option.isSome_some, Option.isSome_none, xis0, xis1, xis2, xis3, xis4, e_ks, lk_k, lk_c, List.lookup_nil, gt_c, vi_i, k1_n, k1_c, k2_n, k2_c, ar_n, ar_c, pk_n, pk_c, rm_0, rm_1, rm_2, rm_3, rm_4, rm_5, rc_9, rcs, fvs, rf_s, rf_n, isI_i, isL_l, isR_r, isR_n, isR_q, ct_i, ct_l, ct_r, ct_n, ct_q, tFs, tCs, tKs, tJs, tSs, e_nf, lgs, ↓reduceIte, true_and, and_true, false_and, and_false, or_true, true_or, false_or, or_false, Nat.reduceAdd, Nat.reduceEqDiff, Nat.reduceDiv, Nat.reduceLT, Nat.reduceLeDiff, Nat.zero_add, reduceCtorEq, Bool.false_eq_true, Option.toList_some, Option.toList_none, List.cons_append, List.nil_append, not_true_eq_false, not_false_eq_true, Nat.sub_zero, dsX7_level, jsX7_level, xcX7_level, h0, h6, i10, c1, ↓sp_X7_isSeries, ↓sp_X7_isWindow]
      exact hq M hR Fr.rf
def mValue (L : List SER) (z : Nat × Nat × Nat) (i a b ms : Int32) : Int64 × Nat × Nat × Nat := match ser L i with
  | none => (NOv, z)
  | some S => if ¬ a < 0 ∧ a < b then (vlW a b ms (tkl S) NOv, mLk 1 S a b) else (NOv, z)
def csX7_value : CS := (cs_c 0 103 2 7 sp_X7_isSeries (cs_c 0 229 3 7 sp_X7_isWindow (cs_c 0 232 1 7 sp_X7_clear (cs_c 0 235 5 7 sp_X7_look (cs_c 0 223 2 7 sp_X7_take cs_0)))))
theorem csoX7_value : ∀ op x na cl sp, csX7_value op x = some (na, cl, sp) → CallOK 7 5 120 op x na cl sp := (cs_c_ok (caX7_value_103 okX7_isSeries) (cs_c_ok (caX7_value_229 okX7_isWindow) (cs_c_ok (caX7_value_232 okX7_clear) (cs_c_ok (caX7_value_235 okX7_look) (cs_c_ok (caX7_value_223 okX7_take) cs_0_ok)))))
theorem xcX7_value : (∀ (Q : QT) (G : GT) (pc : Nat) (L : LV) (a0 a1 : Value) (r : List Value) (M : HM) (k n : Nat), ex_i 7 8 2 false csX7_value Q G (.invokevirtual 103) pc L (a1 :: a0 :: r) M k n = (e_rm r ∧ e_rc M 7 [a0, a1] ∧ sp_X7_isSeries [a0, a1] M k n (fun v M' k' n' => G (pc + 3) L (v.toList ++ r) M' k' n'))) ∧ (∀ (Q : QT) (G : GT) (pc : Nat) (L : LV) (a0 a1 a2 : Value) (r : List Value) (M : HM) (k n : Nat), ex_i 7 8 2 false csX7_value Q G (.invokevirtual 229) pc L (a2 :: a1 :: a0 :: r) M k n = (e_rm r ∧ e_rc M 7 [a0, a1, a2] ∧ sp_X7_isWindow [a0, a1, a2] M k n (fun v M' k' n' => G (pc + 3) L (v.toList ++ r) M' k' n'))) ∧ (∀ (Q : QT) (G : GT) (pc : Nat) (L : LV) (a0 : Value) (r : List Value) (M : HM) (k n : Nat), ex_i 7 8 2 false csX7_value Q G (.invokevirtual 232) pc L (a0 :: r) M k n = (e_rm r ∧ e_rc M 7 [a0] ∧ sp_X7_clear [a0] M k n (fun v M' k' n' => G (pc + 3) L (v.toList ++ r) M' k' n'))) ∧ (∀ (Q : QT) (G : GT) (pc : Nat) (L : LV) (a0 a1 a2 a3 a4 : Value) (r : List Value) (M : HM) (k n : Nat), ex_i 7 8 2 false csX7_value Q G (.invokevirtual 235) pc L (a4 :: a3 :: a2 :: a1 :: a0 :: r) M k n = (e_rm r ∧ e_rc M 7 [a0, a1, a2, a3, a4] ∧ sp_X7_look [a0, a1, a2, a3, a4] M k n (fun v M' k' n' => G (pc + 3) L (v.toList ++ r) M' k' n'))) ∧ (∀ (Q : QT) (G : GT) (pc : Nat) (L : LV) (a0 a1 : Value) (r : List Value) (M : HM) (k n : Nat), ex_i 7 8 2 false csX7_value Q G (.invokevirtual 223) pc L (a1 :: a0 :: r) M k n = (e_rm r ∧ e_rc M 7 [a0, a1] ∧ sp_X7_take [a0, a1] M k n (fun v M' k' n' => G (pc + 3) L (v.toList ++ r) M' k' n'))) := ⟨(fun _ _ _ _ _ _ _ _ _ _ => xv0_2 rfl), (fun _ _ _ _ _ _ _ _ _ _ _ => xv0_3 rfl), (fun _ _ _ _ _ _ _ _ _ => xv0_1 rfl), (fun _ _ _ _ _ _ _ _ _ _ _ _ _ => xv0_5 rfl), (fun _ _ _ _ _ _ _ _ _ _ => xv0_2 rfl)⟩
def sp_X7_value : SP := fun as M k n Q => match as with
  | [.ref m, .int i, .int a, .int b, .int ms] => ∃ A O L z, MRp A O M m L z ∧ wft L ∧ ∀ U, MRp A O U m L (mValue L z i a b ms).2 → Fr (Ss m) O O M U → Q (some (.long (mValue L z i a b ms).1)) U k n
  | _ => False
theorem okX7_value : OkX7_value sp_X7_value := by
  refine inX7_value csoX7_value ?_
  intro as M k n Q hsp
  unfold sp_X7_value at hsp
  split at hsp
  rotate_left
  · exact hsp.elim
  rename_i m i a b ms
  obtain ⟨A, O, L, z, hR, hwt, hq⟩ := hsp
  have hM := hR.1
  have hO := hR.2.1
  have h0 := hM.1
  refine ⟨0, 0, Nat.zero_le _, Nat.zero_le _, Nat.le_of_ble_eq_true rfl, fun G hG => ?_⟩
  unfold mValue at hq
  rcases hR.at_ i with ⟨h1, h2⟩ | ⟨s, S, h1, rfl, h3, h4, h5, h6⟩
  · rw [h1] at hq
    refine e_g2 hG [] 40 ?_
    simp only [e_wp_s, Option.getD_some, Option.isSome_some, Option.isSome_none, xis0, xis1, xis2, xis3, xis4, e_ks, lk_k, lk_c, List.lookup_nil, gt_c, vi_i, k1_n, k1_c, k2_n, k2_c, ar_n, ar_c, pk_n, pk_c, rm_0, rm_1, rm_2, rm_3, rm_4, rm_5, rc_9, rcs, fvs, rf_s, rf_n, isI_i, isL_l, isR_r, isR_n, isR_q, ct_i, ct_l, ct_r, ct_n, ct_q, tFs, tCs, tKs, tJs, tSs, e_nf, lgs, ↓reduceIte, true_and, and_true, false_and, and_false, or_true, true_or, false_or, or_false, Nat.reduceAdd, Nat.reduceEqDiff, Nat.reduceDiv, Nat.reduceLT, Nat.reduceLeDiff, Nat.zero_add, reduceCtorEq, Bool.false_eq_true, Option.toList_some, Option.toList_none, List.cons_append, List.nil_append, not_true_eq_false, not_false_eq_true, Nat.sub_zero, dsX7_value, jsX7_value, xcX7_value, h0, h2, ↓sp_X7_isSeries]
    exact hq M hR Fr.rf
  · simp only [h1] at hq
    have sc : (nI s).toNatClampNeg = s := nI_clamp (by omega)
    have sv : vp_in (nI s) 8 := vp_in_nI h5 (by decide)
    have htm := hwt S (List.mem_of_getElem? h3)
    by_cases c1 : ¬ a < 0 ∧ a < b
    · rw [if_pos c1] at hq
      obtain ⟨k1, k2, k3, k4⟩ := clr_C (M := M) hO
      refine e_g2 hG [(25, [0, 1, 2, 3, 4])] 60 ?_
      simp only [e_wp_s, Option.getD_some, Option.isSome_some, Option.isSome_none, xis0, xis1, xis2, xis3, xis4, e_ks, lk_k, lk_c, List.lookup_nil, gt_c, vi_i, k1_n, k1_c, k2_n, k2_c, ar_n, ar_c, pk_n, pk_c, rm_0, rm_1, rm_2, rm_3, rm_4, rm_5, rc_9, rcs, fvs, rf_s, rf_n, isI_i, isL_l, isR_r, isR_n, isR_q, ct_i, ct_l, ct_r, ct_n, ct_q, tFs, tCs, tKs, tJs, tSs, e_nf, lgs, ↓reduceIte, true_and, and_true, false_and, and_false, or_true, true_or, false_or, or_false, Nat.reduceAdd, Nat.reduceEqDiff, Nat.reduceDiv, Nat.reduceLT, Nat.reduceLeDiff, Nat.zero_add, reduceCtorEq, Bool.false_eq_true, Option.toList_some, Option.toList_none, List.cons_append, List.nil_append, not_true_eq_false, not_false_eq_true, Nat.sub_zero, dsX7_value, jsX7_value, xcX7_value, h0, h6, i10, c1, ↓sp_X7_isSeries, ↓sp_X7_isWindow, ↓sp_X7_clear]
      generalize clrM M m = B at *
      have hMB := k1.ms hM
      have b0 := hMB.1
      have hSB := h4.q k1.l6
      refine e_g2 hG [(33, [0, 1, 2, 3, 4])] 60 ?_
      simp only [e_wp_s, Option.getD_some, Option.isSome_some, Option.isSome_none, xis0, xis1, xis2, xis3, xis4, e_ks, lk_k, lk_c, List.lookup_nil, gt_c, vi_i, k1_n, k1_c, k2_n, k2_c, ar_n, ar_c, pk_n, pk_c, rm_0, rm_1, rm_2, rm_3, rm_4, rm_5, rc_9, rcs, fvs, rf_s, rf_n, isI_i, isL_l, isR_r, isR_n, isR_q, ct_i, ct_l, ct_r, ct_n, ct_q, tFs, tCs, tKs, tJs, tSs, e_nf, lgs, ↓reduceIte, true_and, and_true, false_and, and_false, or_true, true_or, false_or, or_false, Nat.reduceAdd, Nat.reduceEqDiff, Nat.reduceDiv, Nat.reduceLT, Nat.reduceLeDiff, Nat.zero_add, reduceCtorEq, Bool.false_eq_true, Option.toList_some, Option.toList_none, List.cons_append, List.nil_append, not_true_eq_false, not_false_eq_true, Nat.sub_zero, dsX7_value, jsX7_value, xcX7_value, b0]
      refine ⟨O, A, s, S, (0, 0, 0), 1, hMB, hO, h5, hSB, htm, rfl, rfl, by decide, k2, k3, k4, fun C hC c48 c49 c50 => ?_⟩
      have hC1 := k1.tr hC
      have hMC := hC1.ms hM
      have d0 := hMC.1
      have hSC := h4.q hC1.l6
      simp only [Nat.zero_add] at c48 c49 c50
      refine e_g2 hG [(38, [0, 2, 3, 4])] 60 ?_
      simp only [e_wp_s, Option.getD_some, Option.isSome_some, Option.isSome_none, xis0, xis1, xis2, xis3, xis4, e_ks, lk_k, lk_c, List.lookup_nil, gt_c, vi_i, k1_n, k1_c, k2_n, k2_c, ar_n, ar_c, pk_n, pk_c, rm_0, rm_1, rm_2, rm_3, rm_4, rm_5, rc_9, rcs, fvs, rf_s, rf_n, isI_i, isL_l, isR_r, isR_n, isR_q, ct_i, ct_l, ct_r, ct_n, ct_q, tFs, tCs, tKs, tJs, tSs, e_nf, lgs, ↓reduceIte, true_and, and_true, false_and, and_false, or_true, true_or, false_or, or_false, Nat.reduceAdd, Nat.reduceEqDiff, Nat.reduceDiv, Nat.reduceLT, Nat.reduceLeDiff, Nat.zero_add, reduceCtorEq, Bool.false_eq_true, Option.toList_some, Option.toList_none, List.cons_append, List.nil_append, not_true_eq_false, not_false_eq_true, Nat.sub_zero, dsX7_value, jsX7_value, xcX7_value, d0]
      refine ⟨O, A, s, S, hMC, hO, h5, hSC, rfl, fun U hU hA => ?_⟩
      have hRU : MRp A O U m L (mLk 1 S a b) := hR.zst (hC1.l6.tr hU.a6) (by rw [hU.2.2.2.2.2 248 (by decide)]; exact c48) (by rw [hU.2.2.2.2.2 249 (by decide)]; exact c49) (by rw [hU.2.2.2.2.2 250 (by decide)]; exact c50)
      have hFU : Fr (Ss m) O O M U := hC1.2.2.2.1.tr hU.2.2.2.1
      have hq := hq U hRU hFU
      have hMU := hU.ms hMC
      have g0 := hMU.1
      obtain ⟨r251, k251, l251⟩ : mR U 251 m = some (A 251) ∧ mK U (A 251) = 9 ∧ mN U (A 251) = 350 := hMU.2 251 rfl
      obtain ⟨r252, k252, l252⟩ : mR U 252 m = some (A 252) ∧ mK U (A 252) = 10 ∧ mN U (A 252) = 350 := hMU.2 252 rfl
      have hAc := hA.1
      have hAl := hA.2.1
      have htk : tkl S = takA S.2.2.2.2 (mpts (unt S.2.2.2.1)) := rfl
      rw [← htk] at hA hAc hAl
      have atp : ∀ k p, (tkl S)[k]? = some p → aI U (A 251) k = p.1 ∧ aL U (A 252) k = p.2 ∧ k < (tkl S).length := fun k p hp => by
        have hp2 := rdf_at hA.2.2 hp
        rw [Nat.zero_add] at hp2
        exact ⟨by rw [← hp2], by rw [← hp2], (List.getElem?_eq_some_iff.mp hp).1⟩
      generalize tkl S = T at *
      have loop : ∀ d j c, j + d = T.length → vlW a b ms (T.drop j) c = vlW a b ms T NOv → G 46 [(0, .ref m), (2, .int a), (3, .int b), (4, .int ms), (5, .long c), (7, .int (nI j))] [] U 0 0 := by
        intro d
        induction d with
        | zero =>
          intro j c hj he
          have e1 : ¬ nI j < nI T.length := nI_nlt (by omega) (by omega)
          rw [List.drop_eq_nil_of_le (by omega), vlW] at he
          refine e_g2 hG [] 60 ?_
          simp only [e_wp_s, Option.getD_some, Option.isSome_some, Option.isSome_none, xis0, xis1, xis2, xis3, xis4, e_ks, lk_k, lk_c, List.lookup_nil, gt_c, vi_i, k1_n, k1_c, k2_n, k2_c, ar_n, ar_c, pk_n, pk_c, rm_0, rm_1, rm_2, rm_3, rm_4, rm_5, rc_9, rcs, fvs, rf_s, rf_n, isI_i, isL_l, isR_r, isR_n, isR_q, ct_i, ct_l, ct_r, ct_n, ct_q, tFs, tCs, tKs, tJs, tSs, e_nf, lgs, ↓reduceIte, true_and, and_true, false_and, and_false, or_true, true_or, false_or, or_false, Nat.reduceAdd, Nat.reduceEqDiff, Nat.reduceDiv, Nat.reduceLT, Nat.reduceLeDiff, Nat.zero_add, reduceCtorEq, Bool.false_eq_true, Option.toList_some, Option.toList_none, List.cons_append, List.nil_append, not_true_eq_false, not_false_eq_true, Nat.sub_zero, dsX7_value, jsX7_value, xcX7_value, g0, hAc, e1]
          rw [he]
          exact hq
        | succ d ih =>
          intro j c hj he
          have e1 : nI j < nI T.length := nI_lt (by omega) (by omega)
          obtain ⟨p, hx⟩ : ∃ p, T[j]? = some p := ⟨_, List.getElem?_eq_getElem (by omega)⟩
          obtain ⟨p1, p2, p3⟩ := atp j p hx
          have i1 : (nI j).toNatClampNeg = j := nI_clamp (by omega)
          have i2 : vp_in (nI j) 350 := vp_in_nI (by omega) (by decide)
          rw [lbl_drop (t := 0) hx, vlW] at he
          have ih2 := ih (j + 1) _ (by omega) he
          by_cases d1 : p.1 < a
          · rw [if_neg (fun z => z.1.1 d1)] at ih2
            refine e_g2 hG [(46, [0, 2, 3, 4, 5, 7])] 60 ?_
            simp only [e_wp_s, Option.getD_some, Option.isSome_some, Option.isSome_none, xis0, xis1, xis2, xis3, xis4, e_ks, lk_k, lk_c, List.lookup_nil, gt_c, vi_i, k1_n, k1_c, k2_n, k2_c, ar_n, ar_c, pk_n, pk_c, rm_0, rm_1, rm_2, rm_3, rm_4, rm_5, rc_9, rcs, fvs, rf_s, rf_n, isI_i, isL_l, isR_r, isR_n, isR_q, ct_i, ct_l, ct_r, ct_n, ct_q, tFs, tCs, tKs, tJs, tSs, e_nf, lgs, ↓reduceIte, true_and, and_true, false_and, and_false, or_true, true_or, false_or, or_false, Nat.reduceAdd, Nat.reduceEqDiff, Nat.reduceDiv, Nat.reduceLT, Nat.reduceLeDiff, Nat.zero_add, reduceCtorEq, Bool.false_eq_true, Option.toList_some, Option.toList_none, List.cons_append, List.nil_append, not_true_eq_false, not_false_eq_true, Nat.sub_zero, dsX7_value, jsX7_value, xcX7_value, g0, r251, k251, l251, hAc, e1, i1, i2, p1, d1, nI_1]
            exact ih2
          by_cases d2 : p.1 < b
          · by_cases d3 : ms = 0
            · by_cases d4 : c = NOv
              · rw [if_pos ⟨⟨d1, d2⟩, Or.inr d4⟩] at ih2
                have d4' : c = -9223372036854775808 := d4
                refine e_g2 hG [(46, [0, 2, 3, 4, 5, 7])] 60 ?_
                simp only [e_wp_s, Option.getD_some, Option.isSome_some, Option.isSome_none, xis0, xis1, xis2, xis3, xis4, e_ks, lk_k, lk_c, List.lookup_nil, gt_c, vi_i, k1_n, k1_c, k2_n, k2_c, ar_n, ar_c, pk_n, pk_c, rm_0, rm_1, rm_2, rm_3, rm_4, rm_5, rc_9, rcs, fvs, rf_s, rf_n, isI_i, isL_l, isR_r, isR_n, isR_q, ct_i, ct_l, ct_r, ct_n, ct_q, tFs, tCs, tKs, tJs, tSs, e_nf, lgs, ↓reduceIte, true_and, and_true, false_and, and_false, or_true, true_or, false_or, or_false, Nat.reduceAdd, Nat.reduceEqDiff, Nat.reduceDiv, Nat.reduceLT, Nat.reduceLeDiff, Nat.zero_add, reduceCtorEq, Bool.false_eq_true, Option.toList_some, Option.toList_none, List.cons_append, List.nil_append, not_true_eq_false, not_false_eq_true, Nat.sub_zero, dsX7_value, jsX7_value, xcX7_value, g0, r251, k251, l251, r252, k252, l252, hAc, e1, i1, i2, p1, p2, d1, d2, d3, d4', nI_1]
                rw [d3] at ih2
                exact ih2
              · rw [if_neg (fun z => z.2.elim (fun q => q d3) d4)] at ih2
                have d4' : ¬ c = -9223372036854775808 := d4
                refine e_g2 hG [(46, [0, 2, 3, 4, 5, 7])] 60 ?_
                simp only [e_wp_s, Option.getD_some, Option.isSome_some, Option.isSome_none, xis0, xis1, xis2, xis3, xis4, e_ks, lk_k, lk_c, List.lookup_nil, gt_c, vi_i, k1_n, k1_c, k2_n, k2_c, ar_n, ar_c, pk_n, pk_c, rm_0, rm_1, rm_2, rm_3, rm_4, rm_5, rc_9, rcs, fvs, rf_s, rf_n, isI_i, isL_l, isR_r, isR_n, isR_q, ct_i, ct_l, ct_r, ct_n, ct_q, tFs, tCs, tKs, tJs, tSs, e_nf, lgs, ↓reduceIte, true_and, and_true, false_and, and_false, or_true, true_or, false_or, or_false, Nat.reduceAdd, Nat.reduceEqDiff, Nat.reduceDiv, Nat.reduceLT, Nat.reduceLeDiff, Nat.zero_add, reduceCtorEq, Bool.false_eq_true, Option.toList_some, Option.toList_none, List.cons_append, List.nil_append, not_true_eq_false, not_false_eq_true, Nat.sub_zero, dsX7_value, jsX7_value, xcX7_value, g0, r251, k251, l251, r252, k252, l252, hAc, e1, i1, i2, p1, p2, d1, d2, d3, d4', nI_1]
                rw [d3] at ih2
                exact ih2
            · rw [if_pos ⟨⟨d1, d2⟩, Or.inl d3⟩] at ih2
              refine e_g2 hG [(46, [0, 2, 3, 4, 5, 7])] 60 ?_
              simp only [e_wp_s, Option.getD_some, Option.isSome_some, Option.isSome_none, xis0, xis1, xis2, xis3, xis4, e_ks, lk_k, lk_c, List.lookup_nil, gt_c, vi_i, k1_n, k1_c, k2_n, k2_c, ar_n, ar_c, pk_n, pk_c, rm_0, rm_1, rm_2, rm_3, rm_4, rm_5, rc_9, rcs, fvs, rf_s, rf_n, isI_i, isL_l, isR_r, isR_n, isR_q, ct_i, ct_l, ct_r, ct_n, ct_q, tFs, tCs, tKs, tJs, tSs, e_nf, lgs, ↓reduceIte, true_and, and_true, false_and, and_false, or_true, true_or, false_or, or_false, Nat.reduceAdd, Nat.reduceEqDiff, Nat.reduceDiv, Nat.reduceLT, Nat.reduceLeDiff, Nat.zero_add, reduceCtorEq, Bool.false_eq_true, Option.toList_some, Option.toList_none, List.cons_append, List.nil_append, not_true_eq_false, not_false_eq_true, Nat.sub_zero, dsX7_value, jsX7_value, xcX7_value, g0, r251, k251, l251, r252, k252, l252, hAc, e1, i1, i2, p1, p2, d1, d2, d3, nI_1]
              exact ih2
          · rw [if_neg (fun z => d2 z.1.2)] at ih2
            refine e_g2 hG [(46, [0, 2, 3, 4, 5, 7])] 60 ?_
            simp only [e_wp_s, Option.getD_some, Option.isSome_some, Option.isSome_none, xis0, xis1, xis2, xis3, xis4, e_ks, lk_k, lk_c, List.lookup_nil, gt_c, vi_i, k1_n, k1_c, k2_n, k2_c, ar_n, ar_c, pk_n, pk_c, rm_0, rm_1, rm_2, rm_3, rm_4, rm_5, rc_9, rcs, fvs, rf_s, rf_n, isI_i, isL_l, isR_r, isR_n, isR_q, ct_i, ct_l, ct_r, ct_n, ct_q, tFs, tCs, tKs, tJs, tSs, e_nf, lgs, ↓reduceIte, true_and, and_true, false_and, and_false, or_true, true_or, false_or, or_false, Nat.reduceAdd, Nat.reduceEqDiff, Nat.reduceDiv, Nat.reduceLT, Nat.reduceLeDiff, Nat.zero_add, reduceCtorEq, Bool.false_eq_true, Option.toList_some, Option.toList_none, List.cons_append, List.nil_append, not_true_eq_false, not_false_eq_true, Nat.sub_zero, dsX7_value, jsX7_value, xcX7_value, g0, r251, k251, l251, hAc, e1, i1, i2, p1, d1, d2, nI_1]
            exact ih2
      refine e_g2 hG [(46, [0, 2, 3, 4, 5, 7])] 60 ?_
      simp only [e_wp_s, Option.getD_some, Option.isSome_some, Option.isSome_none, xis0, xis1, xis2, xis3, xis4, e_ks, lk_k, lk_c, List.lookup_nil, gt_c, vi_i, k1_n, k1_c, k2_n, k2_c, ar_n, ar_c, pk_n, pk_c, rm_0, rm_1, rm_2, rm_3, rm_4, rm_5, rc_9, rcs, fvs, rf_s, rf_n, isI_i, isL_l, isR_r, isR_n, isR_q, ct_i, ct_l, ct_r, ct_n, ct_q, tFs, tCs, tKs, tJs, tSs, e_nf, lgs, ↓reduceIte, true_and, and_true, false_and, and_false, or_true, true_or, false_or, or_false, Nat.reduceAdd, Nat.reduceEqDiff, Nat.reduceDiv, Nat.reduceLT, Nat.reduceLeDiff, Nat.zero_add, reduceCtorEq, Bool.false_eq_true, Option.toList_some, Option.toList_none, List.cons_append, List.nil_append, not_true_eq_false, not_false_eq_true, Nat.sub_zero, dsX7_value, jsX7_value, xcX7_value]
      exact loop T.length 0 NOv (by omega) rfl
    · rw [if_neg c1] at hq
      refine e_g2 hG [] 60 ?_
      simp only [e_wp_s, Option.getD_some, Option.isSome_some, Option.isSome_none, xis0, xis1, xis2, xis3, xis4, e_ks, lk_k, lk_c, List.lookup_nil, gt_c, vi_i, k1_n, k1_c, k2_n, k2_c, ar_n, ar_c, pk_n, pk_c, rm_0, rm_1, rm_2, rm_3, rm_4, rm_5, rc_9, rcs, fvs, rf_s, rf_n, isI_i, isL_l, isR_r, isR_n, isR_q, ct_i, ct_l, ct_r, ct_n, ct_q, tFs, tCs, tKs, tJs, tSs, e_nf, lgs, ↓reduceIte, true_and, and_true, false_and, and_false, or_true, true_or, false_or, or_false, Nat.reduceAdd, Nat.reduceEqDiff, Nat.reduceDiv, Nat.reduceLT, Nat.reduceLeDiff, Nat.zero_add, reduceCtorEq, Bool.false_eq_true, Option.toList_some, Option.toList_none, List.cons_append, List.nil_append, not_true_eq_false, not_false_eq_true, Nat.sub_zero, dsX7_value, jsX7_value, xcX7_value, h0, h6, i10, c1, ↓sp_X7_isSeries, ↓sp_X7_isWindow]
      exact hq M hR Fr.rf
